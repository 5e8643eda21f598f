theorem dX11_doubt_19 : decode cX11_doubt 19 = .ok (.ifCond .eq 9, 3) := by decide +kernel
theorem dX11_doubt_22 : decode cX11_doubt 22 = .ok (.iload_n 1, 1) := by decide +kernel
theorem dX11_doubt_23 : decode cX11_doubt 23 = .ok (.iconst 1, 1) := by decide +kernel
theorem dX11_doubt_24 : decode cX11_doubt 24 = .ok (.iload_n 2, 1) := by decide +kernel
theorem dX11_doubt_25 : decode cX11_doubt 25 = .ok (.ishl, 1) := by decide +kernel
theorem dX11_doubt_26 : decode cX11_doubt 26 = .ok (.ior, 1) := by decide +kernel
theorem dX11_doubt_27 : decode cX11_doubt 27 = .ok (.istore_n 1, 1) := by decide +kernel
theorem dX11_doubt_28 : decode cX11_doubt 28 = .ok (.iinc 2 1, 3) := by decide +kernel
theorem dX11_doubt_31 : decode cX11_doubt 31 = .ok (.goto (-27), 3) := by decide +kernel
theorem dX11_doubt_34 : decode cX11_doubt 34 = .ok (.iload_n 1, 1) := by decide +kernel
theorem dX11_doubt_35 : decode cX11_doubt 35 = .ok (.ireturn, 1) := by decide +kernel
theorem dX11_only_0 : decode cX11_only 0 = .ok (.aload_n 0, 1) := by decide +kernel
theorem dX11_only_1 : decode cX11_only 1 = .ok (.invokevirtual 47, 3) := by decide +kernel
theorem dX11_only_4 : decode cX11_only 4 = .ok (.astore_n 2, 1) := by decide +kernel
theorem dX11_only_5 : decode cX11_only 5 = .ok (.iconst 0, 1) := by decide +kernel
theorem dX11_only_6 : decode cX11_only 6 = .ok (.istore_n 3, 1) := by decide +kernel
theorem dX11_only_7 : decode cX11_only 7 = .ok (.iload_n 3, 1) := by decide +kernel
theorem dX11_only_8 : decode cX11_only 8 = .ok (.aload_n 0, 1) := by decide +kernel
theorem dX11_only_9 : decode cX11_only 9 = .ok (.getfield 23, 3) := by decide +kernel
theorem dX11_only_12 : decode cX11_only 12 = .ok (.arraylength, 1) := by decide +kernel
theorem dX11_only_13 : decode cX11_only 13 = .ok (.if_icmp .ge 29, 3) := by decide +kernel
theorem dX11_only_16 : decode cX11_only 16 = .ok (.aload_n 2, 1) := by decide +kernel
theorem dX11_only_17 : decode cX11_only 17 = .ok (.getfield 23, 3) := by decide +kernel
theorem dX11_only_20 : decode cX11_only 20 = .ok (.iload_n 3, 1) := by decide +kernel
theorem dX11_only_21 : decode cX11_only 21 = .ok (.iload_n 1, 1) := by decide +kernel
theorem dX11_only_22 : decode cX11_only 22 = .ok (.iload_n 3, 1) := by decide +kernel
theorem dX11_only_23 : decode cX11_only 23 = .ok (.ishr, 1) := by decide +kernel
theorem dX11_only_24 : decode cX11_only 24 = .ok (.iconst 1, 1) := by decide +kernel
theorem dX11_only_25 : decode cX11_only 25 = .ok (.iand, 1) := by decide +kernel
theorem dX11_only_26 : decode cX11_only 26 = .ok (.iconst 1, 1) := by decide +kernel
theorem dX11_only_27 : decode cX11_only 27 = .ok (.if_icmp .ne 7, 3) := by decide +kernel
theorem dX11_only_30 : decode cX11_only 30 = .ok (.iconst 1, 1) := by decide +kernel
theorem dX11_only_31 : decode cX11_only 31 = .ok (.goto 4, 3) := by decide +kernel
theorem dX11_only_34 : decode cX11_only 34 = .ok (.iconst 0, 1) := by decide +kernel
theorem dX11_only_35 : decode cX11_only 35 = .ok (.bastore, 1) := by decide +kernel
theorem dX11_only_36 : decode cX11_only 36 = .ok (.iinc 3 1, 3) := by decide +kernel
theorem dX11_only_39 : decode cX11_only 39 = .ok (.goto (-32), 3) := by decide +kernel
theorem dX11_only_42 : decode cX11_only 42 = .ok (.aload_n 2, 1) := by decide +kernel
theorem dX11_only_43 : decode cX11_only 43 = .ok (.areturn, 1) := by decide +kernel
theorem dX12_init_0 : decode cX12_init 0 = .ok (.aload_n 0, 1) := by decide +kernel
theorem dX12_init_1 : decode cX12_init 1 = .ok (.invokespecial 1, 3) := by decide +kernel
theorem dX12_init_4 : decode cX12_init 4 = .ok (.return_, 1) := by decide +kernel
theorem dX12_cell_0 : decode cX12_cell 0 = .ok (.iload_n 1, 1) := by decide +kernel
theorem dX12_cell_1 : decode cX12_cell 1 = .ok (.aload_n 0, 1) := by decide +kernel
theorem dX12_cell_2 : decode cX12_cell 2 = .ok (.arraylength, 1) := by decide +kernel
theorem dX12_cell_3 : decode cX12_cell 3 = .ok (.if_icmp .ge 9, 3) := by decide +kernel
theorem dX12_cell_6 : decode cX12_cell 6 = .ok (.aload_n 0, 1) := by decide +kernel
theorem dX12_cell_7 : decode cX12_cell 7 = .ok (.iload_n 1, 1) := by decide +kernel
theorem dX12_cell_8 : decode cX12_cell 8 = .ok (.iaload, 1) := by decide +kernel
theorem dX12_cell_9 : decode cX12_cell 9 = .ok (.goto 4, 3) := by decide +kernel
theorem dX12_cell_12 : decode cX12_cell 12 = .ok (.iconst 0, 1) := by decide +kernel
theorem dX12_cell_13 : decode cX12_cell 13 = .ok (.ireturn, 1) := by decide +kernel
theorem dX12_row_0 : decode cX12_row 0 = .ok (.aload_n 0, 1) := by decide +kernel
theorem dX12_row_1 : decode cX12_row 1 = .ok (.iload_n 1, 1) := by decide +kernel
theorem dX12_row_2 : decode cX12_row 2 = .ok (.invokevirtual 7, 3) := by decide +kernel
theorem dX12_row_5 : decode cX12_row 5 = .ok (.lreturn, 1) := by decide +kernel
theorem dX12_row_6 : decode cX12_row 6 = .ok (.astore_n 2, 1) := by decide +kernel
theorem dX12_row_7 : decode cX12_row 7 = .ok (.ldc2_w 15, 3) := by decide +kernel
theorem dX12_row_10 : decode cX12_row 10 = .ok (.lreturn, 1) := by decide +kernel
theorem dX12_ringer_0 : decode cX12_ringer 0 = .ok (.aload_n 0, 1) := by decide +kernel
theorem dX12_ringer_1 : decode cX12_ringer 1 = .ok (.iload_n 1, 1) := by decide +kernel
theorem dX12_ringer_2 : decode cX12_ringer 2 = .ok (.iload_n 2, 1) := by decide +kernel
theorem dX12_ringer_3 : decode cX12_ringer 3 = .ok (.invokevirtual 17, 3) := by decide +kernel
theorem dX12_ringer_6 : decode cX12_ringer 6 = .ok (.ireturn, 1) := by decide +kernel
theorem dX12_ringer_7 : decode cX12_ringer 7 = .ok (.astore_n 3, 1) := by decide +kernel
theorem dX12_ringer_8 : decode cX12_ringer 8 = .ok (.ldc 21, 2) := by decide +kernel
theorem dX12_ringer_10 : decode cX12_ringer 10 = .ok (.ireturn, 1) := by decide +kernel
theorem dX12_person_0 : decode cX12_person 0 = .ok (.aload_n 0, 1) := by decide +kernel
theorem dX12_person_1 : decode cX12_person 1 = .ok (.iload_n 1, 1) := by decide +kernel
theorem dX12_person_2 : decode cX12_person 2 = .ok (.iload_n 2, 1) := by decide +kernel
theorem dX12_person_3 : decode cX12_person 3 = .ok (.invokevirtual 22, 3) := by decide +kernel
theorem dX12_person_6 : decode cX12_person 6 = .ok (.ireturn, 1) := by decide +kernel
theorem dX12_person_7 : decode cX12_person 7 = .ok (.astore_n 3, 1) := by decide +kernel
theorem dX12_person_8 : decode cX12_person 8 = .ok (.ldc 21, 2) := by decide +kernel
theorem dX12_person_10 : decode cX12_person 10 = .ok (.ireturn, 1) := by decide +kernel
theorem dX12_text_0 : decode cX12_text 0 = .ok (.aload_n 1, 1) := by decide +kernel
theorem dX12_text_1 : decode cX12_text 1 = .ok (.invokevirtual 25, 3) := by decide +kernel
theorem dX12_text_4 : decode cX12_text 4 = .ok (.iconst 3, 1) := by decide +kernel
theorem dX12_text_5 : decode cX12_text 5 = .ok (.iadd, 1) := by decide +kernel
theorem dX12_text_6 : decode cX12_text 6 = .ok (.iconst 4, 1) := by decide +kernel
theorem dX12_text_7 : decode cX12_text 7 = .ok (.idiv, 1) := by decide +kernel
theorem dX12_text_8 : decode cX12_text 8 = .ok (.iconst 4, 1) := by decide +kernel
theorem dX12_text_9 : decode cX12_text 9 = .ok (.imul, 1) := by decide +kernel
theorem dX12_text_10 : decode cX12_text 10 = .ok (.istore_n 2, 1) := by decide +kernel
theorem dX12_text_11 : decode cX12_text 11 = .ok (.iconst 0, 1) := by decide +kernel
theorem dX12_text_12 : decode cX12_text 12 = .ok (.istore_n 3, 1) := by decide +kernel
theorem dX12_text_13 : decode cX12_text 13 = .ok (.iload_n 3, 1) := by decide +kernel
theorem dX12_text_14 : decode cX12_text 14 = .ok (.iload_n 2, 1) := by decide +kernel
theorem dX12_text_15 : decode cX12_text 15 = .ok (.if_icmp .ge 70, 3) := by decide +kernel
theorem dX12_text_18 : decode cX12_text 18 = .ok (.iconst 0, 1) := by decide +kernel
theorem dX12_text_19 : decode cX12_text 19 = .ok (.istore 4, 2) := by decide +kernel
theorem dX12_text_21 : decode cX12_text 21 = .ok (.iload_n 3, 1) := by decide +kernel
theorem dX12_text_22 : decode cX12_text 22 = .ok (.istore 5, 2) := by decide +kernel
theorem dX12_text_24 : decode cX12_text 24 = .ok (.iload 5, 2) := by decide +kernel
theorem dX12_text_26 : decode cX12_text 26 = .ok (.iload_n 3, 1) := by decide +kernel
theorem dX12_text_27 : decode cX12_text 27 = .ok (.iconst 4, 1) := by decide +kernel
theorem dX12_text_28 : decode cX12_text 28 = .ok (.iadd, 1) := by decide +kernel
theorem dX12_text_29 : decode cX12_text 29 = .ok (.if_icmp .ge 36, 3) := by decide +kernel
theorem dX12_text_32 : decode cX12_text 32 = .ok (.iload 4, 2) := by decide +kernel
theorem dX12_text_34 : decode cX12_text 34 = .ok (.bipush 8, 2) := by decide +kernel
theorem dX12_text_36 : decode cX12_text 36 = .ok (.ishl, 1) := by decide +kernel
theorem dX12_text_37 : decode cX12_text 37 = .ok (.iload 5, 2) := by decide +kernel
theorem dX12_text_39 : decode cX12_text 39 = .ok (.aload_n 1, 1) := by decide +kernel
theorem dX12_text_40 : decode cX12_text 40 = .ok (.invokevirtual 25, 3) := by decide +kernel
theorem dX12_text_43 : decode cX12_text 43 = .ok (.if_icmp .ge 12, 3) := by decide +kernel
theorem dX12_text_46 : decode cX12_text 46 = .ok (.aload_n 1, 1) := by decide +kernel
theorem dX12_text_47 : decode cX12_text 47 = .ok (.iload 5, 2) := by decide +kernel
theorem dX12_text_49 : decode cX12_text 49 = .ok (.invokevirtual 31, 3) := by decide +kernel
theorem dX12_text_52 : decode cX12_text 52 = .ok (.goto 4, 3) := by decide +kernel
theorem dX12_text_55 : decode cX12_text 55 = .ok (.iconst 0, 1) := by decide +kernel
theorem dX12_text_56 : decode cX12_text 56 = .ok (.ior, 1) := by decide +kernel
theorem dX12_text_57 : decode cX12_text 57 = .ok (.istore 4, 2) := by decide +kernel
theorem dX12_text_59 : decode cX12_text 59 = .ok (.iinc 5 1, 3) := by decide +kernel
theorem dX12_text_62 : decode cX12_text 62 = .ok (.goto (-38), 3) := by decide +kernel
theorem dX12_text_65 : decode cX12_text 65 = .ok (.aload_n 0, 1) := by decide +kernel
theorem dX12_text_66 : decode cX12_text 66 = .ok (.iload 4, 2) := by decide +kernel
theorem dX12_text_68 : decode cX12_text 68 = .ok (.invokevirtual 35, 3) := by decide +kernel
theorem dX12_text_71 : decode cX12_text 71 = .ok (.iload_n 3, 1) := by decide +kernel
theorem dX12_text_72 : decode cX12_text 72 = .ok (.iconst 4, 1) := by decide +kernel
theorem dX12_text_73 : decode cX12_text 73 = .ok (.iadd, 1) := by decide +kernel
theorem dX12_text_74 : decode cX12_text 74 = .ok (.if_icmp .eq 5, 3) := by decide +kernel
theorem dX12_text_77 : decode cX12_text 77 = .ok (.iconst 0, 1) := by decide +kernel
theorem dX12_text_78 : decode cX12_text 78 = .ok (.ireturn, 1) := by decide +kernel
theorem dX12_text_79 : decode cX12_text 79 = .ok (.iinc 3 4, 3) := by decide +kernel
theorem dX12_text_82 : decode cX12_text 82 = .ok (.goto (-69), 3) := by decide +kernel
theorem dX12_text_85 : decode cX12_text 85 = .ok (.aload_n 0, 1) := by decide +kernel
theorem dX12_text_86 : decode cX12_text 86 = .ok (.aload_n 1, 1) := by decide +kernel
theorem dX12_text_87 : decode cX12_text 87 = .ok (.invokevirtual 25, 3) := by decide +kernel
theorem dX12_text_90 : decode cX12_text 90 = .ok (.invokevirtual 39, 3) := by decide +kernel
theorem dX12_text_93 : decode cX12_text 93 = .ok (.ireturn, 1) := by decide +kernel
theorem dX12_isRow_0 : decode cX12_isRow 0 = .ok (.aload_n 0, 1) := by decide +kernel
theorem dX12_isRow_1 : decode cX12_isRow 1 = .ok (.bipush 15, 2) := by decide +kernel
theorem dX12_isRow_3 : decode cX12_isRow 3 = .ok (.invokevirtual 43, 3) := by decide +kernel
theorem dX12_isRow_6 : decode cX12_isRow 6 = .ok (.aload_n 1, 1) := by decide +kernel
theorem dX12_isRow_7 : decode cX12_isRow 7 = .ok (.arraylength, 1) := by decide +kernel
theorem dX12_isRow_8 : decode cX12_isRow 8 = .ok (.if_icmp .eq 5, 3) := by decide +kernel
theorem dX12_isRow_11 : decode cX12_isRow 11 = .ok (.iconst 0, 1) := by decide +kernel
theorem dX12_isRow_12 : decode cX12_isRow 12 = .ok (.ireturn, 1) := by decide +kernel
theorem dX12_isRow_13 : decode cX12_isRow 13 = .ok (.iconst 0, 1) := by decide +kernel
theorem dX12_isRow_14 : decode cX12_isRow 14 = .ok (.istore_n 2, 1) := by decide +kernel
theorem dX12_isRow_15 : decode cX12_isRow 15 = .ok (.iload_n 2, 1) := by decide +kernel
theorem dX12_isRow_16 : decode cX12_isRow 16 = .ok (.aload_n 1, 1) := by decide +kernel
theorem dX12_isRow_17 : decode cX12_isRow 17 = .ok (.arraylength, 1) := by decide +kernel
theorem dX12_isRow_18 : decode cX12_isRow 18 = .ok (.if_icmp .ge 23, 3) := by decide +kernel
theorem dX12_isRow_21 : decode cX12_isRow 21 = .ok (.aload_n 0, 1) := by decide +kernel
theorem dX12_isRow_22 : decode cX12_isRow 22 = .ok (.iload_n 2, 1) := by decide +kernel
theorem dX12_isRow_23 : decode cX12_isRow 23 = .ok (.invokestatic 46, 3) := by decide +kernel
theorem dX12_isRow_26 : decode cX12_isRow 26 = .ok (.aload_n 1, 1) := by decide +kernel
theorem dX12_isRow_27 : decode cX12_isRow 27 = .ok (.iload_n 2, 1) := by decide +kernel
theorem dX12_isRow_28 : decode cX12_isRow 28 = .ok (.laload, 1) := by decide +kernel
theorem dX12_isRow_29 : decode cX12_isRow 29 = .ok (.lcmp, 1) := by decide +kernel
theorem dX12_isRow_30 : decode cX12_isRow 30 = .ok (.ifCond .eq 5, 3) := by decide +kernel
theorem dX12_isRow_33 : decode cX12_isRow 33 = .ok (.iconst 0, 1) := by decide +kernel
theorem dX12_isRow_34 : decode cX12_isRow 34 = .ok (.ireturn, 1) := by decide +kernel
theorem dX12_isRow_35 : decode cX12_isRow 35 = .ok (.iinc 2 1, 3) := by decide +kernel
theorem dX12_isRow_38 : decode cX12_isRow 38 = .ok (.goto (-23), 3) := by decide +kernel
theorem dX12_isRow_41 : decode cX12_isRow 41 = .ok (.iconst 1, 1) := by decide +kernel
theorem dX12_isRow_42 : decode cX12_isRow 42 = .ok (.ireturn, 1) := by decide +kernel
theorem dX12_by_0 : decode cX12_by 0 = .ok (.aload_n 1, 1) := by decide +kernel
theorem dX12_by_1 : decode cX12_by 1 = .ok (.getfield 55, 3) := by decide +kernel
theorem dX12_by_4 : decode cX12_by 4 = .ok (.bipush 60, 2) := by decide +kernel
theorem dX12_by_6 : decode cX12_by 6 = .ok (.irem, 1) := by decide +kernel
theorem dX12_by_7 : decode cX12_by 7 = .ok (.istore 5, 2) := by decide +kernel
theorem dX12_by_9 : decode cX12_by 9 = .ok (.aload_n 0, 1) := by decide +kernel
theorem dX12_by_10 : decode cX12_by 10 = .ok (.getfield 61, 3) := by decide +kernel
theorem dX12_by_13 : decode cX12_by 13 = .ok (.tableswitch 142 0 6 #[43, 62, 71, 88, 104, 114, 131], 43) := by decide +kernel
theorem dX12_by_56 : decode cX12_by 56 = .ok (.iload_n 2, 1) := by decide +kernel
theorem dX12_by_57 : decode cX12_by 57 = .ok (.bipush 10, 2) := by decide +kernel
theorem dX12_by_59 : decode cX12_by 59 = .ok (.imul, 1) := by decide +kernel
theorem dX12_by_60 : decode cX12_by 60 = .ok (.iload_n 3, 1) := by decide +kernel
theorem dX12_by_61 : decode cX12_by 61 = .ok (.isub, 1) := by decide +kernel
theorem dX12_by_62 : decode cX12_by 62 = .ok (.aload_n 0, 1) := by decide +kernel
theorem dX12_by_63 : decode cX12_by 63 = .ok (.getfield 64, 3) := by decide +kernel
theorem dX12_by_66 : decode cX12_by 66 = .ok (.iconst 3, 1) := by decide +kernel
theorem dX12_by_67 : decode cX12_by 67 = .ok (.imul, 1) := by decide +kernel
theorem dX12_by_68 : decode cX12_by 68 = .ok (.isub, 1) := by decide +kernel
theorem dX12_by_69 : decode cX12_by 69 = .ok (.aload_n 0, 1) := by decide +kernel
theorem dX12_by_70 : decode cX12_by 70 = .ok (.getfield 67, 3) := by decide +kernel
theorem dX12_by_73 : decode cX12_by 73 = .ok (.isub, 1) := by decide +kernel
theorem dX12_by_74 : decode cX12_by 74 = .ok (.ireturn, 1) := by decide +kernel
theorem dX12_by_75 : decode cX12_by 75 = .ok (.iload_n 2, 1) := by decide +kernel
theorem dX12_by_76 : decode cX12_by 76 = .ok (.bipush 8, 2) := by decide +kernel
theorem dX12_by_78 : decode cX12_by 78 = .ok (.imul, 1) := by decide +kernel
theorem dX12_by_79 : decode cX12_by 79 = .ok (.iload_n 3, 1) := by decide +kernel
theorem dX12_by_80 : decode cX12_by 80 = .ok (.iconst 2, 1) := by decide +kernel
theorem dX12_by_81 : decode cX12_by 81 = .ok (.imul, 1) := by decide +kernel
theorem dX12_by_82 : decode cX12_by 82 = .ok (.isub, 1) := by decide +kernel
theorem dX12_by_83 : decode cX12_by 83 = .ok (.ireturn, 1) := by decide +kernel
theorem dX12_by_84 : decode cX12_by 84 = .ok (.iload_n 2, 1) := by decide +kernel
theorem dX12_by_85 : decode cX12_by 85 = .ok (.iload 4, 2) := by decide +kernel
theorem dX12_by_87 : decode cX12_by 87 = .ok (.imul, 1) := by decide +kernel
theorem dX12_by_88 : decode cX12_by 88 = .ok (.bipush 6, 2) := by decide +kernel
theorem dX12_by_90 : decode cX12_by 90 = .ok (.imul, 1) := by decide +kernel
theorem dX12_by_91 : decode cX12_by 91 = .ok (.aload_n 0, 1) := by decide +kernel
theorem dX12_by_92 : decode cX12_by 92 = .ok (.getfield 64, 3) := by decide +kernel
theorem dX12_by_95 : decode cX12_by 95 = .ok (.iconst 3, 1) := by decide +kernel
theorem dX12_by_96 : decode cX12_by 96 = .ok (.imul, 1) := by decide +kernel
theorem dX12_by_97 : decode cX12_by 97 = .ok (.isub, 1) := by decide +kernel
theorem dX12_by_98 : decode cX12_by 98 = .ok (.iload_n 3, 1) := by decide +kernel
theorem dX12_by_99 : decode cX12_by 99 = .ok (.isub, 1) := by decide +kernel
theorem dX12_by_100 : decode cX12_by 100 = .ok (.ireturn, 1) := by decide +kernel
theorem dX12_by_101 : decode cX12_by 101 = .ok (.aload_n 1, 1) := by decide +kernel
theorem dX12_by_102 : decode cX12_by 102 = .ok (.getfield 70, 3) := by decide +kernel
theorem dX12_by_105 : decode cX12_by 105 = .ok (.iconst 5, 1) := by decide +kernel
theorem dX12_by_106 : decode cX12_by 106 = .ok (.idiv, 1) := by decide +kernel
theorem dX12_by_107 : decode cX12_by 107 = .ok (.iload_n 2, 1) := by decide +kernel
theorem dX12_by_108 : decode cX12_by 108 = .ok (.iadd, 1) := by decide +kernel
theorem dX12_by_109 : decode cX12_by 109 = .ok (.aload_n 0, 1) := by decide +kernel
theorem dX12_by_110 : decode cX12_by 110 = .ok (.getfield 67, 3) := by decide +kernel
theorem dX12_by_113 : decode cX12_by 113 = .ok (.isub, 1) := by decide +kernel
theorem dX12_by_114 : decode cX12_by 114 = .ok (.iload_n 3, 1) := by decide +kernel
theorem dX12_by_115 : decode cX12_by 115 = .ok (.isub, 1) := by decide +kernel
theorem dX12_by_116 : decode cX12_by 116 = .ok (.ireturn, 1) := by decide +kernel
theorem dX12_by_117 : decode cX12_by 117 = .ok (.iload_n 2, 1) := by decide +kernel
theorem dX12_by_118 : decode cX12_by 118 = .ok (.bipush 9, 2) := by decide +kernel
theorem dX12_by_120 : decode cX12_by 120 = .ok (.imul, 1) := by decide +kernel
theorem dX12_by_121 : decode cX12_by 121 = .ok (.iload 5, 2) := by decide +kernel
theorem dX12_by_123 : decode cX12_by 123 = .ok (.isub, 1) := by decide +kernel
theorem dX12_by_124 : decode cX12_by 124 = .ok (.iload_n 3, 1) := by decide +kernel
theorem dX12_by_125 : decode cX12_by 125 = .ok (.isub, 1) := by decide +kernel
theorem dX12_by_126 : decode cX12_by 126 = .ok (.ireturn, 1) := by decide +kernel
theorem dX12_by_127 : decode cX12_by 127 = .ok (.iload_n 3, 1) := by decide +kernel
theorem dX12_by_128 : decode cX12_by 128 = .ok (.bipush 20, 2) := by decide +kernel
theorem dX12_by_130 : decode cX12_by 130 = .ok (.if_icmp .ge 7, 3) := by decide +kernel
theorem dX12_by_133 : decode cX12_by 133 = .ok (.iload_n 2, 1) := by decide +kernel
theorem dX12_by_134 : decode cX12_by 134 = .ok (.goto 4, 3) := by decide +kernel
theorem dX12_by_137 : decode cX12_by 137 = .ok (.iconst 0, 1) := by decide +kernel
theorem dX12_by_138 : decode cX12_by 138 = .ok (.aload_n 0, 1) := by decide +kernel
theorem dX12_by_139 : decode cX12_by 139 = .ok (.getfield 67, 3) := by decide +kernel
theorem dX12_by_142 : decode cX12_by 142 = .ok (.isub, 1) := by decide +kernel
theorem dX12_by_143 : decode cX12_by 143 = .ok (.ireturn, 1) := by decide +kernel
theorem dX12_by_144 : decode cX12_by 144 = .ok (.iload_n 2, 1) := by decide +kernel
theorem dX12_by_145 : decode cX12_by 145 = .ok (.iload_n 2, 1) := by decide +kernel
theorem dX12_by_146 : decode cX12_by 146 = .ok (.imul, 1) := by decide +kernel
theorem dX12_by_147 : decode cX12_by 147 = .ok (.iload_n 3, 1) := by decide +kernel
theorem dX12_by_148 : decode cX12_by 148 = .ok (.isub, 1) := by decide +kernel
theorem dX12_by_149 : decode cX12_by 149 = .ok (.aload_n 0, 1) := by decide +kernel
theorem dX12_by_150 : decode cX12_by 150 = .ok (.getfield 64, 3) := by decide +kernel
theorem dX12_by_153 : decode cX12_by 153 = .ok (.isub, 1) := by decide +kernel
theorem dX12_by_154 : decode cX12_by 154 = .ok (.ireturn, 1) := by decide +kernel
theorem dX12_by_155 : decode cX12_by 155 = .ok (.bipush 40, 2) := by decide +kernel
theorem dX12_by_157 : decode cX12_by 157 = .ok (.iload_n 3, 1) := by decide +kernel
theorem dX12_by_158 : decode cX12_by 158 = .ok (.isub, 1) := by decide +kernel
theorem dX12_by_159 : decode cX12_by 159 = .ok (.aload_n 0, 1) := by decide +kernel
theorem dX12_by_160 : decode cX12_by 160 = .ok (.getfield 64, 3) := by decide +kernel
theorem dX12_by_163 : decode cX12_by 163 = .ok (.iconst 2, 1) := by decide +kernel
theorem dX12_by_164 : decode cX12_by 164 = .ok (.imul, 1) := by decide +kernel
theorem dX12_by_165 : decode cX12_by 165 = .ok (.isub, 1) := by decide +kernel
theorem dX12_by_166 : decode cX12_by 166 = .ok (.iload 4, 2) := by decide +kernel
theorem dX12_by_168 : decode cX12_by 168 = .ok (.iadd, 1) := by decide +kernel
theorem dX12_by_169 : decode cX12_by 169 = .ok (.ireturn, 1) := by decide +kernel
theorem dX12_loud_0 : decode cX12_loud 0 = .ok (.iconst 0, 1) := by decide +kernel
theorem dX12_loud_1 : decode cX12_loud 1 = .ok (.istore_n 2, 1) := by decide +kernel
theorem dX12_loud_2 : decode cX12_loud 2 = .ok (.iconst 0, 1) := by decide +kernel
theorem dX12_loud_3 : decode cX12_loud 3 = .ok (.istore_n 3, 1) := by decide +kernel
theorem dX12_loud_4 : decode cX12_loud 4 = .ok (.iconst 0, 1) := by decide +kernel
theorem dX12_loud_5 : decode cX12_loud 5 = .ok (.istore 4, 2) := by decide +kernel
theorem dX12_loud_7 : decode cX12_loud 7 = .ok (.iconst 0, 1) := by decide +kernel
theorem dX12_loud_8 : decode cX12_loud 8 = .ok (.istore 5, 2) := by decide +kernel
theorem dX12_loud_10 : decode cX12_loud 10 = .ok (.iload 5, 2) := by decide +kernel
theorem dX12_loud_12 : decode cX12_loud 12 = .ok (.aload_n 0, 1) := by decide +kernel
theorem dX12_loud_13 : decode cX12_loud 13 = .ok (.getfield 73, 3) := by decide +kernel
theorem dX12_loud_16 : decode cX12_loud 16 = .ok (.arraylength, 1) := by decide +kernel
theorem dX12_loud_17 : decode cX12_loud 17 = .ok (.if_icmp .ge 44, 3) := by decide +kernel
theorem dX12_loud_20 : decode cX12_loud 20 = .ok (.aload_n 1, 1) := by decide +kernel
theorem dX12_loud_21 : decode cX12_loud 21 = .ok (.getfield 77, 3) := by decide +kernel
theorem dX12_loud_24 : decode cX12_loud 24 = .ok (.iload 5, 2) := by decide +kernel
theorem dX12_loud_26 : decode cX12_loud 26 = .ok (.baload, 1) := by decide +kernel
theorem dX12_loud_27 : decode cX12_loud 27 = .ok (.ifCond .eq 28, 3) := by decide +kernel
theorem dX12_loud_30 : decode cX12_loud 30 = .ok (.iload_n 2, 1) := by decide +kernel
theorem dX12_loud_31 : decode cX12_loud 31 = .ok (.aload_n 0, 1) := by decide +kernel
theorem dX12_loud_32 : decode cX12_loud 32 = .ok (.getfield 73, 3) := by decide +kernel
theorem dX12_loud_35 : decode cX12_loud 35 = .ok (.iload 5, 2) := by decide +kernel
theorem dX12_loud_37 : decode cX12_loud 37 = .ok (.aaload, 1) := by decide +kernel
theorem dX12_loud_38 : decode cX12_loud 38 = .ok (.iconst 0, 1) := by decide +kernel
theorem dX12_loud_39 : decode cX12_loud 39 = .ok (.iaload, 1) := by decide +kernel
theorem dX12_loud_40 : decode cX12_loud 40 = .ok (.iadd, 1) := by decide +kernel
theorem dX12_loud_41 : decode cX12_loud 41 = .ok (.istore_n 2, 1) := by decide +kernel
theorem dX12_loud_42 : decode cX12_loud 42 = .ok (.iload_n 3, 1) := by decide +kernel
theorem dX12_loud_43 : decode cX12_loud 43 = .ok (.aload_n 1, 1) := by decide +kernel
theorem dX12_loud_44 : decode cX12_loud 44 = .ok (.getfield 81, 3) := by decide +kernel
theorem dX12_loud_47 : decode cX12_loud 47 = .ok (.iload 5, 2) := by decide +kernel
theorem dX12_loud_49 : decode cX12_loud 49 = .ok (.iaload, 1) := by decide +kernel
theorem dX12_loud_50 : decode cX12_loud 50 = .ok (.iadd, 1) := by decide +kernel
theorem dX12_loud_51 : decode cX12_loud 51 = .ok (.istore_n 3, 1) := by decide +kernel
theorem dX12_loud_52 : decode cX12_loud 52 = .ok (.iinc 4 1, 3) := by decide +kernel
theorem dX12_loud_55 : decode cX12_loud 55 = .ok (.iinc 5 1, 3) := by decide +kernel
theorem dX12_loud_58 : decode cX12_loud 58 = .ok (.goto (-48), 3) := by decide +kernel
theorem dX12_loud_61 : decode cX12_loud 61 = .ok (.iload 4, 2) := by decide +kernel
theorem dX12_loud_63 : decode cX12_loud 63 = .ok (.ifCond .eq 10, 3) := by decide +kernel
theorem dX12_loud_66 : decode cX12_loud 66 = .ok (.aload_n 1, 1) := by decide +kernel
theorem dX12_loud_67 : decode cX12_loud 67 = .ok (.getfield 70, 3) := by decide +kernel
theorem dX12_loud_70 : decode cX12_loud 70 = .ok (.ifCond .ne 7, 3) := by decide +kernel
theorem dX12_loud_73 : decode cX12_loud 73 = .ok (.iconst 0, 1) := by decide +kernel
theorem dX12_loud_74 : decode cX12_loud 74 = .ok (.goto 12, 3) := by decide +kernel
theorem dX12_loud_77 : decode cX12_loud 77 = .ok (.aload_n 0, 1) := by decide +kernel
theorem dX12_loud_78 : decode cX12_loud 78 = .ok (.aload_n 1, 1) := by decide +kernel
theorem dX12_loud_79 : decode cX12_loud 79 = .ok (.iload_n 2, 1) := by decide +kernel
theorem dX12_loud_80 : decode cX12_loud 80 = .ok (.iload_n 3, 1) := by decide +kernel
theorem dX12_loud_81 : decode cX12_loud 81 = .ok (.iload 4, 2) := by decide +kernel
theorem dX12_loud_83 : decode cX12_loud 83 = .ok (.invokevirtual 85, 3) := by decide +kernel
theorem dX12_loud_86 : decode cX12_loud 86 = .ok (.ireturn, 1) := by decide +kernel
theorem dX12_minute_0 : decode cX12_minute 0 = .ok (.aload_n 0, 1) := by decide +kernel
theorem dX12_minute_1 : decode cX12_minute 1 = .ok (.aload_n 1, 1) := by decide +kernel
theorem dX12_minute_2 : decode cX12_minute 2 = .ok (.invokevirtual 89, 3) := by decide +kernel
theorem dX12_minute_5 : decode cX12_minute 5 = .ok (.ifCond .le 7, 3) := by decide +kernel
theorem dX12_minute_8 : decode cX12_minute 8 = .ok (.iconst 1, 1) := by decide +kernel
theorem dX12_minute_9 : decode cX12_minute 9 = .ok (.goto 4, 3) := by decide +kernel
theorem dX12_minute_12 : decode cX12_minute 12 = .ok (.iconst 0, 1) := by decide +kernel
theorem dX12_minute_13 : decode cX12_minute 13 = .ok (.istore_n 2, 1) := by decide +kernel
theorem dX12_minute_14 : decode cX12_minute 14 = .ok (.iload_n 2, 1) := by decide +kernel
theorem dX12_minute_15 : decode cX12_minute 15 = .ok (.ifCond .eq 48, 3) := by decide +kernel
theorem dX12_minute_18 : decode cX12_minute 18 = .ok (.aload_n 1, 1) := by decide +kernel
theorem dX12_minute_19 : decode cX12_minute 19 = .ok (.iconst 0, 1) := by decide +kernel
theorem dX12_minute_20 : decode cX12_minute 20 = .ok (.putfield 93, 3) := by decide +kernel
theorem dX12_minute_23 : decode cX12_minute 23 = .ok (.aload_n 1, 1) := by decide +kernel
theorem dX12_minute_24 : decode cX12_minute 24 = .ok (.dup, 1) := by decide +kernel
theorem dX12_minute_25 : decode cX12_minute 25 = .ok (.getfield 96, 3) := by decide +kernel
theorem dX12_minute_28 : decode cX12_minute 28 = .ok (.iconst 1, 1) := by decide +kernel
theorem dX12_minute_29 : decode cX12_minute 29 = .ok (.iadd, 1) := by decide +kernel
theorem dX12_minute_30 : decode cX12_minute 30 = .ok (.putfield 96, 3) := by decide +kernel
theorem dX12_minute_33 : decode cX12_minute 33 = .ok (.aload_n 1, 1) := by decide +kernel
theorem dX12_minute_34 : decode cX12_minute 34 = .ok (.getfield 96, 3) := by decide +kernel
theorem dX12_minute_37 : decode cX12_minute 37 = .ok (.bipush 10, 2) := by decide +kernel
theorem dX12_minute_39 : decode cX12_minute 39 = .ok (.irem, 1) := by decide +kernel
theorem dX12_minute_40 : decode cX12_minute 40 = .ok (.ifCond .ne 56, 3) := by decide +kernel
theorem dX12_minute_43 : decode cX12_minute 43 = .ok (.aload_n 1, 1) := by decide +kernel
theorem dX12_minute_44 : decode cX12_minute 44 = .ok (.getfield 70, 3) := by decide +kernel
theorem dX12_minute_47 : decode cX12_minute 47 = .ok (.ifCond .le 49, 3) := by decide +kernel
theorem dX12_minute_50 : decode cX12_minute 50 = .ok (.aload_n 1, 1) := by decide +kernel
theorem dX12_minute_51 : decode cX12_minute 51 = .ok (.dup, 1) := by decide +kernel
theorem dX12_minute_52 : decode cX12_minute 52 = .ok (.getfield 70, 3) := by decide +kernel
theorem dX12_minute_55 : decode cX12_minute 55 = .ok (.iconst 1, 1) := by decide +kernel
theorem dX12_minute_56 : decode cX12_minute 56 = .ok (.isub, 1) := by decide +kernel
theorem dX12_minute_57 : decode cX12_minute 57 = .ok (.putfield 70, 3) := by decide +kernel
theorem dX12_minute_60 : decode cX12_minute 60 = .ok (.goto 36, 3) := by decide +kernel
theorem dX12_minute_63 : decode cX12_minute 63 = .ok (.aload_n 1, 1) := by decide +kernel
theorem dX12_minute_64 : decode cX12_minute 64 = .ok (.dup, 1) := by decide +kernel
theorem dX12_minute_65 : decode cX12_minute 65 = .ok (.getfield 93, 3) := by decide +kernel
theorem dX12_minute_68 : decode cX12_minute 68 = .ok (.iconst 1, 1) := by decide +kernel
theorem dX12_minute_69 : decode cX12_minute 69 = .ok (.iadd, 1) := by decide +kernel
theorem dX12_minute_70 : decode cX12_minute 70 = .ok (.putfield 93, 3) := by decide +kernel
theorem dX12_minute_73 : decode cX12_minute 73 = .ok (.aload_n 1, 1) := by decide +kernel
theorem dX12_minute_74 : decode cX12_minute 74 = .ok (.getfield 93, 3) := by decide +kernel
theorem dX12_minute_77 : decode cX12_minute 77 = .ok (.aload_n 0, 1) := by decide +kernel
theorem dX12_minute_78 : decode cX12_minute 78 = .ok (.getfield 99, 3) := by decide +kernel
theorem dX12_minute_81 : decode cX12_minute 81 = .ok (.iconst 1, 1) := by decide +kernel
theorem dX12_minute_82 : decode cX12_minute 82 = .ok (.iadd, 1) := by decide +kernel
theorem dX12_minute_83 : decode cX12_minute 83 = .ok (.if_icmp .ne 13, 3) := by decide +kernel
theorem dX12_minute_86 : decode cX12_minute 86 = .ok (.aload_n 1, 1) := by decide +kernel
theorem dX12_minute_87 : decode cX12_minute 87 = .ok (.dup, 1) := by decide +kernel
theorem dX12_minute_88 : decode cX12_minute 88 = .ok (.getfield 102, 3) := by decide +kernel
theorem dX12_minute_91 : decode cX12_minute 91 = .ok (.iconst 1, 1) := by decide +kernel
theorem dX12_minute_92 : decode cX12_minute 92 = .ok (.iadd, 1) := by decide +kernel
theorem dX12_minute_93 : decode cX12_minute 93 = .ok (.putfield 102, 3) := by decide +kernel
theorem dX12_minute_96 : decode cX12_minute 96 = .ok (.iconst 0, 1) := by decide +kernel
theorem dX12_minute_97 : decode cX12_minute 97 = .ok (.istore_n 3, 1) := by decide +kernel
theorem dX12_minute_98 : decode cX12_minute 98 = .ok (.iload_n 3, 1) := by decide +kernel
theorem dX12_minute_99 : decode cX12_minute 99 = .ok (.aload_n 0, 1) := by decide +kernel
theorem dX12_minute_100 : decode cX12_minute 100 = .ok (.getfield 73, 3) := by decide +kernel
theorem dX12_minute_103 : decode cX12_minute 103 = .ok (.arraylength, 1) := by decide +kernel
theorem dX12_minute_104 : decode cX12_minute 104 = .ok (.if_icmp .ge 78, 3) := by decide +kernel
theorem dX12_minute_107 : decode cX12_minute 107 = .ok (.aload_n 1, 1) := by decide +kernel
theorem dX12_minute_108 : decode cX12_minute 108 = .ok (.getfield 77, 3) := by decide +kernel
theorem dX12_minute_111 : decode cX12_minute 111 = .ok (.iload_n 3, 1) := by decide +kernel
theorem dX12_minute_112 : decode cX12_minute 112 = .ok (.baload, 1) := by decide +kernel
theorem dX12_minute_113 : decode cX12_minute 113 = .ok (.ifCond .eq 20, 3) := by decide +kernel
theorem dX12_minute_116 : decode cX12_minute 116 = .ok (.aload_n 1, 1) := by decide +kernel
theorem dX12_minute_117 : decode cX12_minute 117 = .ok (.dup, 1) := by decide +kernel
theorem dX12_minute_118 : decode cX12_minute 118 = .ok (.getfield 105, 3) := by decide +kernel
theorem dX12_minute_121 : decode cX12_minute 121 = .ok (.aload_n 0, 1) := by decide +kernel
theorem dX12_minute_122 : decode cX12_minute 122 = .ok (.getfield 73, 3) := by decide +kernel
theorem dX12_minute_125 : decode cX12_minute 125 = .ok (.iload_n 3, 1) := by decide +kernel
theorem dX12_minute_126 : decode cX12_minute 126 = .ok (.aaload, 1) := by decide +kernel
theorem dX12_minute_127 : decode cX12_minute 127 = .ok (.iconst 1, 1) := by decide +kernel
theorem dX12_minute_128 : decode cX12_minute 128 = .ok (.iaload, 1) := by decide +kernel
theorem dX12_minute_129 : decode cX12_minute 129 = .ok (.iadd, 1) := by decide +kernel
theorem dX12_minute_130 : decode cX12_minute 130 = .ok (.putfield 105, 3) := by decide +kernel
theorem dX12_minute_133 : decode cX12_minute 133 = .ok (.aload_n 1, 1) := by decide +kernel
theorem dX12_minute_134 : decode cX12_minute 134 = .ok (.getfield 81, 3) := by decide +kernel
theorem dX12_minute_137 : decode cX12_minute 137 = .ok (.iload_n 3, 1) := by decide +kernel
theorem dX12_minute_138 : decode cX12_minute 138 = .ok (.aload_n 1, 1) := by decide +kernel
theorem dX12_minute_139 : decode cX12_minute 139 = .ok (.getfield 77, 3) := by decide +kernel
theorem dX12_minute_142 : decode cX12_minute 142 = .ok (.iload_n 3, 1) := by decide +kernel
theorem dX12_minute_143 : decode cX12_minute 143 = .ok (.baload, 1) := by decide +kernel
theorem dX12_minute_144 : decode cX12_minute 144 = .ok (.ifCond .eq 19, 3) := by decide +kernel
theorem dX12_minute_147 : decode cX12_minute 147 = .ok (.bipush 99, 2) := by decide +kernel
theorem dX12_minute_149 : decode cX12_minute 149 = .ok (.aload_n 1, 1) := by decide +kernel
theorem dX12_minute_150 : decode cX12_minute 150 = .ok (.getfield 81, 3) := by decide +kernel
theorem dX12_minute_153 : decode cX12_minute 153 = .ok (.iload_n 3, 1) := by decide +kernel
theorem dX12_minute_154 : decode cX12_minute 154 = .ok (.iaload, 1) := by decide +kernel
theorem dX12_minute_155 : decode cX12_minute 155 = .ok (.iconst 2, 1) := by decide +kernel
theorem dX12_minute_156 : decode cX12_minute 156 = .ok (.iadd, 1) := by decide +kernel
theorem dX12_minute_157 : decode cX12_minute 157 = .ok (.invokestatic 108, 3) := by decide +kernel
theorem dX12_minute_160 : decode cX12_minute 160 = .ok (.goto 15, 3) := by decide +kernel
theorem dX12_minute_163 : decode cX12_minute 163 = .ok (.iconst 0, 1) := by decide +kernel
theorem dX12_minute_164 : decode cX12_minute 164 = .ok (.aload_n 1, 1) := by decide +kernel
theorem dX12_minute_165 : decode cX12_minute 165 = .ok (.getfield 81, 3) := by decide +kernel
theorem dX12_minute_168 : decode cX12_minute 168 = .ok (.iload_n 3, 1) := by decide +kernel
theorem dX12_minute_169 : decode cX12_minute 169 = .ok (.iaload, 1) := by decide +kernel
theorem dX12_minute_170 : decode cX12_minute 170 = .ok (.iconst 1, 1) := by decide +kernel
theorem dX12_minute_171 : decode cX12_minute 171 = .ok (.isub, 1) := by decide +kernel
theorem dX12_minute_172 : decode cX12_minute 172 = .ok (.invokestatic 113, 3) := by decide +kernel
theorem dX12_minute_175 : decode cX12_minute 175 = .ok (.iastore, 1) := by decide +kernel
theorem dX12_minute_176 : decode cX12_minute 176 = .ok (.iinc 3 1, 3) := by decide +kernel
theorem dX12_minute_179 : decode cX12_minute 179 = .ok (.goto (-81), 3) := by decide +kernel
theorem dX12_minute_182 : decode cX12_minute 182 = .ok (.aload_n 1, 1) := by decide +kernel
theorem dX12_minute_183 : decode cX12_minute 183 = .ok (.dup, 1) := by decide +kernel
theorem dX12_minute_184 : decode cX12_minute 184 = .ok (.getfield 55, 3) := by decide +kernel
theorem dX12_minute_187 : decode cX12_minute 187 = .ok (.iconst 1, 1) := by decide +kernel
theorem dX12_minute_188 : decode cX12_minute 188 = .ok (.iadd, 1) := by decide +kernel
theorem dX12_minute_189 : decode cX12_minute 189 = .ok (.putfield 55, 3) := by decide +kernel
theorem dX12_minute_192 : decode cX12_minute 192 = .ok (.aload_n 1, 1) := by decide +kernel
theorem dX12_minute_193 : decode cX12_minute 193 = .ok (.getfield 116, 3) := by decide +kernel
theorem dX12_minute_196 : decode cX12_minute 196 = .ok (.invokevirtual 119, 3) := by decide +kernel
theorem dX12_minute_199 : decode cX12_minute 199 = .ok (.checkcast 120, 3) := by decide +kernel
theorem dX12_minute_202 : decode cX12_minute 202 = .ok (.astore_n 3, 1) := by decide +kernel
theorem dX12_minute_203 : decode cX12_minute 203 = .ok (.iconst 0, 1) := by decide +kernel
theorem dX12_minute_204 : decode cX12_minute 204 = .ok (.istore 4, 2) := by decide +kernel
theorem dX12_minute_206 : decode cX12_minute 206 = .ok (.aload_n 3, 1) := by decide +kernel
theorem dX12_minute_207 : decode cX12_minute 207 = .ok (.astore 5, 2) := by decide +kernel
theorem dX12_minute_209 : decode cX12_minute 209 = .ok (.aload 5, 2) := by decide +kernel
theorem dX12_minute_211 : decode cX12_minute 211 = .ok (.arraylength, 1) := by decide +kernel
theorem dX12_minute_212 : decode cX12_minute 212 = .ok (.istore 6, 2) := by decide +kernel
theorem dX12_minute_214 : decode cX12_minute 214 = .ok (.iconst 0, 1) := by decide +kernel
theorem dX12_minute_215 : decode cX12_minute 215 = .ok (.istore 7, 2) := by decide +kernel
theorem dX12_minute_217 : decode cX12_minute 217 = .ok (.iload 7, 2) := by decide +kernel
theorem dX12_minute_219 : decode cX12_minute 219 = .ok (.iload 6, 2) := by decide +kernel
theorem dX12_minute_221 : decode cX12_minute 221 = .ok (.if_icmp .ge 24, 3) := by decide +kernel
theorem dX12_minute_224 : decode cX12_minute 224 = .ok (.aload 5, 2) := by decide +kernel
theorem dX12_minute_226 : decode cX12_minute 226 = .ok (.iload 7, 2) := by decide +kernel
theorem dX12_minute_228 : decode cX12_minute 228 = .ok (.baload, 1) := by decide +kernel
theorem dX12_minute_229 : decode cX12_minute 229 = .ok (.istore 8, 2) := by decide +kernel
theorem dX12_minute_231 : decode cX12_minute 231 = .ok (.iload 8, 2) := by decide +kernel
theorem dX12_minute_233 : decode cX12_minute 233 = .ok (.ifCond .eq 6, 3) := by decide +kernel
theorem dX12_minute_236 : decode cX12_minute 236 = .ok (.iinc 4 1, 3) := by decide +kernel
theorem dX12_minute_239 : decode cX12_minute 239 = .ok (.iinc 7 1, 3) := by decide +kernel
theorem dX12_minute_242 : decode cX12_minute 242 = .ok (.goto (-25), 3) := by decide +kernel
theorem dX12_minute_245 : decode cX12_minute 245 = .ok (.iconst 0, 1) := by decide +kernel
theorem dX12_minute_246 : decode cX12_minute 246 = .ok (.istore 5, 2) := by decide +kernel
theorem dX12_minute_248 : decode cX12_minute 248 = .ok (.iload 5, 2) := by decide +kernel
theorem dX12_minute_250 : decode cX12_minute 250 = .ok (.aload_n 0, 1) := by decide +kernel
theorem dX12_minute_251 : decode cX12_minute 251 = .ok (.getfield 124, 3) := by decide +kernel
theorem dX12_minute_254 : decode cX12_minute 254 = .ok (.arraylength, 1) := by decide +kernel
theorem dX12_minute_255 : decode cX12_minute 255 = .ok (.if_icmp .ge 76, 3) := by decide +kernel
theorem dX12_minute_258 : decode cX12_minute 258 = .ok (.iload 4, 2) := by decide +kernel
theorem dX12_minute_260 : decode cX12_minute 260 = .ok (.aload_n 3, 1) := by decide +kernel
theorem dX12_minute_261 : decode cX12_minute 261 = .ok (.iload 5, 2) := by decide +kernel
theorem dX12_minute_263 : decode cX12_minute 263 = .ok (.baload, 1) := by decide +kernel
theorem dX12_minute_264 : decode cX12_minute 264 = .ok (.ifCond .eq 7, 3) := by decide +kernel
theorem dX12_minute_267 : decode cX12_minute 267 = .ok (.iconst 1, 1) := by decide +kernel
theorem dX12_minute_268 : decode cX12_minute 268 = .ok (.goto 4, 3) := by decide +kernel
theorem dX12_minute_271 : decode cX12_minute 271 = .ok (.iconst 0, 1) := by decide +kernel
theorem dX12_minute_272 : decode cX12_minute 272 = .ok (.isub, 1) := by decide +kernel
theorem dX12_minute_273 : decode cX12_minute 273 = .ok (.istore 6, 2) := by decide +kernel
theorem dX12_minute_275 : decode cX12_minute 275 = .ok (.aload_n 1, 1) := by decide +kernel
theorem dX12_minute_276 : decode cX12_minute 276 = .ok (.getfield 93, 3) := by decide +kernel
theorem dX12_minute_279 : decode cX12_minute 279 = .ok (.aload_n 0, 1) := by decide +kernel
theorem dX12_minute_280 : decode cX12_minute 280 = .ok (.getfield 124, 3) := by decide +kernel
theorem dX12_minute_283 : decode cX12_minute 283 = .ok (.iload 5, 2) := by decide +kernel
theorem dX12_minute_285 : decode cX12_minute 285 = .ok (.aaload, 1) := by decide +kernel
theorem dX12_minute_286 : decode cX12_minute 286 = .ok (.iconst 0, 1) := by decide +kernel
theorem dX12_minute_287 : decode cX12_minute 287 = .ok (.iaload, 1) := by decide +kernel
theorem dX12_minute_288 : decode cX12_minute 288 = .ok (.if_icmp .ge 29, 3) := by decide +kernel
theorem dX12_minute_291 : decode cX12_minute 291 = .ok (.aload_n 0, 1) := by decide +kernel
theorem dX12_minute_292 : decode cX12_minute 292 = .ok (.getfield 124, 3) := by decide +kernel
theorem dX12_minute_295 : decode cX12_minute 295 = .ok (.iload 5, 2) := by decide +kernel
theorem dX12_minute_297 : decode cX12_minute 297 = .ok (.aaload, 1) := by decide +kernel
theorem dX12_minute_298 : decode cX12_minute 298 = .ok (.iconst 1, 1) := by decide +kernel
theorem dX12_minute_299 : decode cX12_minute 299 = .ok (.iaload, 1) := by decide +kernel
theorem dX12_minute_300 : decode cX12_minute 300 = .ok (.ifCond .le 25, 3) := by decide +kernel
theorem dX12_minute_303 : decode cX12_minute 303 = .ok (.iload 6, 2) := by decide +kernel
theorem dX12_minute_305 : decode cX12_minute 305 = .ok (.aload_n 0, 1) := by decide +kernel
theorem dX12_minute_306 : decode cX12_minute 306 = .ok (.getfield 124, 3) := by decide +kernel
theorem dX12_minute_309 : decode cX12_minute 309 = .ok (.iload 5, 2) := by decide +kernel
theorem dX12_minute_311 : decode cX12_minute 311 = .ok (.aaload, 1) := by decide +kernel
theorem dX12_minute_312 : decode cX12_minute 312 = .ok (.iconst 1, 1) := by decide +kernel
theorem dX12_minute_313 : decode cX12_minute 313 = .ok (.iaload, 1) := by decide +kernel
theorem dX12_minute_314 : decode cX12_minute 314 = .ok (.if_icmp .lt 11, 3) := by decide +kernel
theorem dX12_minute_317 : decode cX12_minute 317 = .ok (.aload_n 1, 1) := by decide +kernel
theorem dX12_minute_318 : decode cX12_minute 318 = .ok (.getfield 116, 3) := by decide +kernel
theorem dX12_minute_321 : decode cX12_minute 321 = .ok (.iload 5, 2) := by decide +kernel
theorem dX12_minute_323 : decode cX12_minute 323 = .ok (.iconst 1, 1) := by decide +kernel
theorem dX12_minute_324 : decode cX12_minute 324 = .ok (.bastore, 1) := by decide +kernel
theorem dX12_minute_325 : decode cX12_minute 325 = .ok (.iinc 5 1, 3) := by decide +kernel
theorem dX12_minute_328 : decode cX12_minute 328 = .ok (.goto (-80), 3) := by decide +kernel
theorem dX12_minute_331 : decode cX12_minute 331 = .ok (.iload_n 2, 1) := by decide +kernel
theorem dX12_minute_332 : decode cX12_minute 332 = .ok (.ireturn, 1) := by decide +kernel
theorem dX12_goes_0 : decode cX12_goes 0 = .ok (.iconst 0, 1) := by decide +kernel
theorem dX12_goes_1 : decode cX12_goes 1 = .ok (.istore_n 3, 1) := by decide +kernel
theorem dX12_goes_2 : decode cX12_goes 2 = .ok (.iconst 0, 1) := by decide +kernel
theorem dX12_goes_3 : decode cX12_goes 3 = .ok (.istore 4, 2) := by decide +kernel
theorem dX12_goes_5 : decode cX12_goes 5 = .ok (.iload 4, 2) := by decide +kernel
theorem dX12_goes_7 : decode cX12_goes 7 = .ok (.iload_n 2, 1) := by decide +kernel
theorem dX12_goes_8 : decode cX12_goes 8 = .ok (.if_icmp .ge 20, 3) := by decide +kernel
theorem dX12_goes_11 : decode cX12_goes 11 = .ok (.aload_n 0, 1) := by decide +kernel
theorem dX12_goes_12 : decode cX12_goes 12 = .ok (.aload_n 1, 1) := by decide +kernel
theorem dX12_goes_13 : decode cX12_goes 13 = .ok (.invokevirtual 127, 3) := by decide +kernel
theorem dX12_goes_16 : decode cX12_goes 16 = .ok (.ifCond .eq 6, 3) := by decide +kernel
theorem dX12_goes_19 : decode cX12_goes 19 = .ok (.iinc 3 1, 3) := by decide +kernel
theorem dX12_goes_22 : decode cX12_goes 22 = .ok (.iinc 4 1, 3) := by decide +kernel
theorem dX12_goes_25 : decode cX12_goes 25 = .ok (.goto (-20), 3) := by decide +kernel
theorem dX12_goes_28 : decode cX12_goes 28 = .ok (.iload_n 3, 1) := by decide +kernel
theorem dX12_goes_29 : decode cX12_goes 29 = .ok (.ireturn, 1) := by decide +kernel
theorem dX12_take_0 : decode cX12_take 0 = .ok (.iload_n 2, 1) := by decide +kernel
theorem dX12_take_1 : decode cX12_take 1 = .ok (.ifCond .lt 12, 3) := by decide +kernel
theorem dX12_take_4 : decode cX12_take 4 = .ok (.iload_n 2, 1) := by decide +kernel
theorem dX12_take_5 : decode cX12_take 5 = .ok (.aload_n 0, 1) := by decide +kernel
theorem dX12_take_6 : decode cX12_take 6 = .ok (.getfield 73, 3) := by decide +kernel
theorem dX12_take_9 : decode cX12_take 9 = .ok (.arraylength, 1) := by decide +kernel
theorem dX12_take_10 : decode cX12_take 10 = .ok (.if_icmp .lt 5, 3) := by decide +kernel
theorem dX12_take_13 : decode cX12_take 13 = .ok (.iconst (-1), 1) := by decide +kernel
theorem dX12_take_14 : decode cX12_take 14 = .ok (.ireturn, 1) := by decide +kernel
theorem dX12_take_15 : decode cX12_take 15 = .ok (.aload_n 1, 1) := by decide +kernel
theorem dX12_take_16 : decode cX12_take 16 = .ok (.getfield 77, 3) := by decide +kernel
theorem dX12_take_19 : decode cX12_take 19 = .ok (.iload_n 2, 1) := by decide +kernel
theorem dX12_take_20 : decode cX12_take 20 = .ok (.baload, 1) := by decide +kernel
theorem dX12_take_21 : decode cX12_take 21 = .ok (.ifCond .eq 6, 3) := by decide +kernel
theorem dX12_take_24 : decode cX12_take 24 = .ok (.bipush (-2), 2) := by decide +kernel
theorem dX12_take_26 : decode cX12_take 26 = .ok (.ireturn, 1) := by decide +kernel
theorem dX12_take_27 : decode cX12_take 27 = .ok (.aload_n 1, 1) := by decide +kernel
theorem dX12_take_28 : decode cX12_take 28 = .ok (.invokevirtual 131, 3) := by decide +kernel
theorem dX12_take_31 : decode cX12_take 31 = .ok (.invokestatic 134, 3) := by decide +kernel
theorem dX12_take_34 : decode cX12_take 34 = .ok (.iconst 3, 1) := by decide +kernel
theorem dX12_take_35 : decode cX12_take 35 = .ok (.if_icmp .ne 6, 3) := by decide +kernel
theorem dX12_take_38 : decode cX12_take 38 = .ok (.bipush (-3), 2) := by decide +kernel
theorem dX12_take_40 : decode cX12_take 40 = .ok (.ireturn, 1) := by decide +kernel
theorem dX12_take_41 : decode cX12_take 41 = .ok (.aload_n 1, 1) := by decide +kernel
theorem dX12_take_42 : decode cX12_take 42 = .ok (.getfield 77, 3) := by decide +kernel
theorem dX12_take_45 : decode cX12_take 45 = .ok (.iload_n 2, 1) := by decide +kernel
theorem dX12_take_46 : decode cX12_take 46 = .ok (.iconst 1, 1) := by decide +kernel
theorem dX12_take_47 : decode cX12_take 47 = .ok (.bastore, 1) := by decide +kernel
theorem dX12_take_48 : decode cX12_take 48 = .ok (.aload_n 1, 1) := by decide +kernel
theorem dX12_take_49 : decode cX12_take 49 = .ok (.invokevirtual 131, 3) := by decide +kernel
theorem dX12_take_52 : decode cX12_take 52 = .ok (.invokestatic 134, 3) := by decide +kernel
theorem dX12_take_55 : decode cX12_take 55 = .ok (.ireturn, 1) := by decide +kernel
theorem dX12_leave_0 : decode cX12_leave 0 = .ok (.iload_n 2, 1) := by decide +kernel
theorem dX12_leave_1 : decode cX12_leave 1 = .ok (.ifCond .lt 12, 3) := by decide +kernel
theorem dX12_leave_4 : decode cX12_leave 4 = .ok (.iload_n 2, 1) := by decide +kernel
theorem dX12_leave_5 : decode cX12_leave 5 = .ok (.aload_n 0, 1) := by decide +kernel
theorem dX12_leave_6 : decode cX12_leave 6 = .ok (.getfield 73, 3) := by decide +kernel
theorem dX12_leave_9 : decode cX12_leave 9 = .ok (.arraylength, 1) := by decide +kernel
theorem dX12_leave_10 : decode cX12_leave 10 = .ok (.if_icmp .lt 5, 3) := by decide +kernel
theorem dX12_leave_13 : decode cX12_leave 13 = .ok (.iconst (-1), 1) := by decide +kernel
theorem dX12_leave_14 : decode cX12_leave 14 = .ok (.ireturn, 1) := by decide +kernel
theorem dX12_leave_15 : decode cX12_leave 15 = .ok (.aload_n 1, 1) := by decide +kernel
theorem dX12_leave_16 : decode cX12_leave 16 = .ok (.getfield 77, 3) := by decide +kernel
theorem dX12_leave_19 : decode cX12_leave 19 = .ok (.iload_n 2, 1) := by decide +kernel
theorem dX12_leave_20 : decode cX12_leave 20 = .ok (.baload, 1) := by decide +kernel
theorem dX12_leave_21 : decode cX12_leave 21 = .ok (.ifCond .ne 6, 3) := by decide +kernel
theorem dX12_leave_24 : decode cX12_leave 24 = .ok (.bipush (-2), 2) := by decide +kernel
theorem dX12_leave_26 : decode cX12_leave 26 = .ok (.ireturn, 1) := by decide +kernel
theorem dX12_leave_27 : decode cX12_leave 27 = .ok (.aload_n 1, 1) := by decide +kernel
theorem dX12_leave_28 : decode cX12_leave 28 = .ok (.getfield 77, 3) := by decide +kernel
theorem dX12_leave_31 : decode cX12_leave 31 = .ok (.iload_n 2, 1) := by decide +kernel
theorem dX12_leave_32 : decode cX12_leave 32 = .ok (.iconst 0, 1) := by decide +kernel
theorem dX12_leave_33 : decode cX12_leave 33 = .ok (.bastore, 1) := by decide +kernel
theorem dX12_leave_34 : decode cX12_leave 34 = .ok (.aload_n 1, 1) := by decide +kernel
theorem dX12_leave_35 : decode cX12_leave 35 = .ok (.invokevirtual 131, 3) := by decide +kernel
theorem dX12_leave_38 : decode cX12_leave 38 = .ok (.invokestatic 134, 3) := by decide +kernel
theorem dX12_leave_41 : decode cX12_leave 41 = .ok (.ireturn, 1) := by decide +kernel
theorem dX12_build_0 : decode cX12_build 0 = .ok (.aload_n 2, 1) := by decide +kernel
theorem dX12_build_1 : decode cX12_build 1 = .ok (.iconst 0, 1) := by decide +kernel
theorem dX12_build_2 : decode cX12_build 2 = .ok (.invokestatic 139, 3) := by decide +kernel
theorem dX12_build_5 : decode cX12_build 5 = .ok (.iload_n 3, 1) := by decide +kernel
theorem dX12_build_6 : decode cX12_build 6 = .ok (.iconst 1, 1) := by decide +kernel
theorem dX12_build_7 : decode cX12_build 7 = .ok (.iadd, 1) := by decide +kernel
theorem dX12_build_8 : decode cX12_build 8 = .ok (.invokestatic 143, 3) := by decide +kernel
theorem dX12_build_11 : decode cX12_build 11 = .ok (.istore 5, 2) := by decide +kernel
theorem dX12_build_13 : decode cX12_build 13 = .ok (.aload_n 0, 1) := by decide +kernel
theorem dX12_build_14 : decode cX12_build 14 = .ok (.aload_n 2, 1) := by decide +kernel
theorem dX12_build_15 : decode cX12_build 15 = .ok (.iconst 0, 1) := by decide +kernel
theorem dX12_build_16 : decode cX12_build 16 = .ok (.invokestatic 139, 3) := by decide +kernel
theorem dX12_build_19 : decode cX12_build 19 = .ok (.iconst 4, 1) := by decide +kernel
theorem dX12_build_20 : decode cX12_build 20 = .ok (.ishr, 1) := by decide +kernel
theorem dX12_build_21 : decode cX12_build 21 = .ok (.bipush 7, 2) := by decide +kernel
theorem dX12_build_23 : decode cX12_build 23 = .ok (.iand, 1) := by decide +kernel
theorem dX12_build_24 : decode cX12_build 24 = .ok (.putfield 61, 3) := by decide +kernel
theorem dX12_build_27 : decode cX12_build 27 = .ok (.aload_n 1, 1) := by decide +kernel
theorem dX12_build_28 : decode cX12_build 28 = .ok (.getstatic 146, 3) := by decide +kernel
theorem dX12_build_31 : decode cX12_build 31 = .ok (.aload_n 0, 1) := by decide +kernel
theorem dX12_build_32 : decode cX12_build 32 = .ok (.getfield 61, 3) := by decide +kernel
theorem dX12_build_35 : decode cX12_build 35 = .ok (.aaload, 1) := by decide +kernel
theorem dX12_build_36 : decode cX12_build 36 = .ok (.invokestatic 150, 3) := by decide +kernel
theorem dX12_build_39 : decode cX12_build 39 = .ok (.ifCond .eq 10, 3) := by decide +kernel
theorem dX12_build_42 : decode cX12_build 42 = .ok (.aload_n 1, 1) := by decide +kernel
theorem dX12_build_43 : decode cX12_build 43 = .ok (.invokevirtual 154, 3) := by decide +kernel
theorem dX12_build_46 : decode cX12_build 46 = .ok (.ifCond .eq 5, 3) := by decide +kernel
theorem dX12_build_49 : decode cX12_build 49 = .ok (.aconst_null, 1) := by decide +kernel
theorem dX12_build_50 : decode cX12_build 50 = .ok (.areturn, 1) := by decide +kernel
theorem dX12_build_51 : decode cX12_build 51 = .ok (.aload_n 0, 1) := by decide +kernel
theorem dX12_build_52 : decode cX12_build 52 = .ok (.iload 5, 2) := by decide +kernel
theorem dX12_build_54 : decode cX12_build 54 = .ok (.anewarray 156, 3) := by decide +kernel
theorem dX12_build_57 : decode cX12_build 57 = .ok (.putfield 73, 3) := by decide +kernel
theorem dX12_build_60 : decode cX12_build 60 = .ok (.new 56, 3) := by decide +kernel
theorem dX12_build_63 : decode cX12_build 63 = .ok (.dup, 1) := by decide +kernel
theorem dX12_build_64 : decode cX12_build 64 = .ok (.invokespecial 157, 3) := by decide +kernel
theorem dX12_build_67 : decode cX12_build 67 = .ok (.astore 6, 2) := by decide +kernel
theorem dX12_build_69 : decode cX12_build 69 = .ok (.aload 6, 2) := by decide +kernel
theorem dX12_build_71 : decode cX12_build 71 = .ok (.iload 5, 2) := by decide +kernel
theorem dX12_build_73 : decode cX12_build 73 = .ok (.newarray .int, 2) := by decide +kernel
theorem dX12_build_75 : decode cX12_build 75 = .ok (.putfield 81, 3) := by decide +kernel
theorem dX12_build_78 : decode cX12_build 78 = .ok (.aload 6, 2) := by decide +kernel
theorem dX12_build_80 : decode cX12_build 80 = .ok (.iload 5, 2) := by decide +kernel
theorem dX12_build_82 : decode cX12_build 82 = .ok (.newarray .boolean, 2) := by decide +kernel
theorem dX12_build_84 : decode cX12_build 84 = .ok (.putfield 77, 3) := by decide +kernel
theorem dX12_build_87 : decode cX12_build 87 = .ok (.iconst 0, 1) := by decide +kernel
theorem dX12_build_88 : decode cX12_build 88 = .ok (.istore 7, 2) := by decide +kernel
theorem dX12_build_90 : decode cX12_build 90 = .ok (.iload 7, 2) := by decide +kernel
theorem dX12_build_92 : decode cX12_build 92 = .ok (.iload 5, 2) := by decide +kernel
theorem dX12_build_94 : decode cX12_build 94 = .ok (.if_icmp .ge 109, 3) := by decide +kernel
theorem dX12_build_97 : decode cX12_build 97 = .ok (.aload_n 2, 1) := by decide +kernel
theorem dX12_build_98 : decode cX12_build 98 = .ok (.iconst 1, 1) := by decide +kernel
theorem dX12_build_99 : decode cX12_build 99 = .ok (.iload 7, 2) := by decide +kernel
theorem dX12_build_101 : decode cX12_build 101 = .ok (.iadd, 1) := by decide +kernel
theorem dX12_build_102 : decode cX12_build 102 = .ok (.invokestatic 139, 3) := by decide +kernel
theorem dX12_build_105 : decode cX12_build 105 = .ok (.istore 8, 2) := by decide +kernel
theorem dX12_build_107 : decode cX12_build 107 = .ok (.aload_n 0, 1) := by decide +kernel
theorem dX12_build_108 : decode cX12_build 108 = .ok (.getfield 73, 3) := by decide +kernel
theorem dX12_build_111 : decode cX12_build 111 = .ok (.iload 7, 2) := by decide +kernel
theorem dX12_build_113 : decode cX12_build 113 = .ok (.iconst 2, 1) := by decide +kernel
theorem dX12_build_114 : decode cX12_build 114 = .ok (.newarray .int, 2) := by decide +kernel
theorem dX12_build_116 : decode cX12_build 116 = .ok (.dup, 1) := by decide +kernel
theorem dX12_build_117 : decode cX12_build 117 = .ok (.iconst 0, 1) := by decide +kernel
theorem dX12_build_118 : decode cX12_build 118 = .ok (.iconst 1, 1) := by decide +kernel
theorem dX12_build_119 : decode cX12_build 119 = .ok (.iload 8, 2) := by decide +kernel
theorem dX12_build_121 : decode cX12_build 121 = .ok (.bipush 9, 2) := by decide +kernel
theorem dX12_build_123 : decode cX12_build 123 = .ok (.invokestatic 143, 3) := by decide +kernel
theorem dX12_build_126 : decode cX12_build 126 = .ok (.iadd, 1) := by decide +kernel
theorem dX12_build_127 : decode cX12_build 127 = .ok (.iastore, 1) := by decide +kernel
theorem dX12_build_128 : decode cX12_build 128 = .ok (.dup, 1) := by decide +kernel
theorem dX12_build_129 : decode cX12_build 129 = .ok (.iconst 1, 1) := by decide +kernel
theorem dX12_build_130 : decode cX12_build 130 = .ok (.iload 8, 2) := by decide +kernel
theorem dX12_build_132 : decode cX12_build 132 = .ok (.iconst 4, 1) := by decide +kernel
theorem dX12_build_133 : decode cX12_build 133 = .ok (.ishr, 1) := by decide +kernel
theorem dX12_build_134 : decode cX12_build 134 = .ok (.bipush 10, 2) := by decide +kernel
theorem dX12_build_136 : decode cX12_build 136 = .ok (.invokestatic 143, 3) := by decide +kernel
theorem dX12_build_139 : decode cX12_build 139 = .ok (.iastore, 1) := by decide +kernel
theorem dX12_build_140 : decode cX12_build 140 = .ok (.aastore, 1) := by decide +kernel
theorem dX12_build_141 : decode cX12_build 141 = .ok (.aload_n 1, 1) := by decide +kernel
theorem dX12_build_142 : decode cX12_build 142 = .ok (.new 158, 3) := by decide +kernel
theorem dX12_build_145 : decode cX12_build 145 = .ok (.dup, 1) := by decide +kernel
theorem dX12_build_146 : decode cX12_build 146 = .ok (.invokespecial 160, 3) := by decide +kernel
theorem dX12_build_149 : decode cX12_build 149 = .ok (.ldc 161, 2) := by decide +kernel
theorem dX12_build_151 : decode cX12_build 151 = .ok (.invokevirtual 163, 3) := by decide +kernel
theorem dX12_build_154 : decode cX12_build 154 = .ok (.aload_n 0, 1) := by decide +kernel
theorem dX12_build_155 : decode cX12_build 155 = .ok (.getfield 73, 3) := by decide +kernel
theorem dX12_build_158 : decode cX12_build 158 = .ok (.iload 7, 2) := by decide +kernel
theorem dX12_build_160 : decode cX12_build 160 = .ok (.aaload, 1) := by decide +kernel
theorem dX12_build_161 : decode cX12_build 161 = .ok (.iconst 0, 1) := by decide +kernel
theorem dX12_build_162 : decode cX12_build 162 = .ok (.iaload, 1) := by decide +kernel
theorem dX12_build_163 : decode cX12_build 163 = .ok (.invokevirtual 167, 3) := by decide +kernel
theorem dX12_build_166 : decode cX12_build 166 = .ok (.aload_n 0, 1) := by decide +kernel
theorem dX12_build_167 : decode cX12_build 167 = .ok (.getfield 73, 3) := by decide +kernel
theorem dX12_build_170 : decode cX12_build 170 = .ok (.iload 7, 2) := by decide +kernel
theorem dX12_build_172 : decode cX12_build 172 = .ok (.aaload, 1) := by decide +kernel
theorem dX12_build_173 : decode cX12_build 173 = .ok (.iconst 1, 1) := by decide +kernel
theorem dX12_build_174 : decode cX12_build 174 = .ok (.iaload, 1) := by decide +kernel
theorem dX12_build_175 : decode cX12_build 175 = .ok (.invokevirtual 167, 3) := by decide +kernel
theorem dX12_build_178 : decode cX12_build 178 = .ok (.invokevirtual 170, 3) := by decide +kernel
theorem dX12_build_181 : decode cX12_build 181 = .ok (.invokestatic 150, 3) := by decide +kernel
theorem dX12_build_184 : decode cX12_build 184 = .ok (.ifCond .eq 11, 3) := by decide +kernel
theorem dX12_build_187 : decode cX12_build 187 = .ok (.aload_n 1, 1) := by decide +kernel
theorem dX12_build_188 : decode cX12_build 188 = .ok (.invokevirtual 174, 3) := by decide +kernel
theorem dX12_build_191 : decode cX12_build 191 = .ok (.iconst 1, 1) := by decide +kernel
theorem dX12_build_192 : decode cX12_build 192 = .ok (.if_icmp .eq 5, 3) := by decide +kernel
theorem dX12_build_195 : decode cX12_build 195 = .ok (.aconst_null, 1) := by decide +kernel
theorem dX12_build_196 : decode cX12_build 196 = .ok (.areturn, 1) := by decide +kernel
theorem dX12_build_197 : decode cX12_build 197 = .ok (.iinc 7 1, 3) := by decide +kernel
theorem dX12_build_200 : decode cX12_build 200 = .ok (.goto (-110), 3) := by decide +kernel
theorem dX12_build_203 : decode cX12_build 203 = .ok (.aload_n 2, 1) := by decide +kernel
theorem dX12_build_204 : decode cX12_build 204 = .ok (.iconst 0, 1) := by decide +kernel
theorem dX12_build_205 : decode cX12_build 205 = .ok (.invokestatic 139, 3) := by decide +kernel
theorem dX12_build_208 : decode cX12_build 208 = .ok (.bipush 7, 2) := by decide +kernel
theorem dX12_build_210 : decode cX12_build 210 = .ok (.ishr, 1) := by decide +kernel
theorem dX12_build_211 : decode cX12_build 211 = .ok (.bipush 40, 2) := by decide +kernel
theorem dX12_build_213 : decode cX12_build 213 = .ok (.invokestatic 143, 3) := by decide +kernel
theorem dX12_build_216 : decode cX12_build 216 = .ok (.istore 7, 2) := by decide +kernel
theorem dX12_build_218 : decode cX12_build 218 = .ok (.aload_n 2, 1) := by decide +kernel
theorem dX12_build_219 : decode cX12_build 219 = .ok (.iconst 0, 1) := by decide +kernel
theorem dX12_build_220 : decode cX12_build 220 = .ok (.invokestatic 139, 3) := by decide +kernel
theorem dX12_build_223 : decode cX12_build 223 = .ok (.bipush 13, 2) := by decide +kernel
theorem dX12_build_225 : decode cX12_build 225 = .ok (.ishr, 1) := by decide +kernel
theorem dX12_build_226 : decode cX12_build 226 = .ok (.bipush 15, 2) := by decide +kernel
theorem dX12_build_228 : decode cX12_build 228 = .ok (.invokestatic 143, 3) := by decide +kernel
theorem dX12_build_231 : decode cX12_build 231 = .ok (.bipush 7, 2) := by decide +kernel
theorem dX12_build_233 : decode cX12_build 233 = .ok (.isub, 1) := by decide +kernel
theorem dX12_build_234 : decode cX12_build 234 = .ok (.istore 8, 2) := by decide +kernel
theorem dX12_build_236 : decode cX12_build 236 = .ok (.iconst 0, 1) := by decide +kernel
theorem dX12_build_237 : decode cX12_build 237 = .ok (.istore 9, 2) := by decide +kernel
theorem dX12_build_239 : decode cX12_build 239 = .ok (.aload_n 2, 1) := by decide +kernel
theorem dX12_build_240 : decode cX12_build 240 = .ok (.iconst 0, 1) := by decide +kernel
theorem dX12_build_241 : decode cX12_build 241 = .ok (.invokestatic 139, 3) := by decide +kernel
theorem dX12_build_244 : decode cX12_build 244 = .ok (.bipush 17, 2) := by decide +kernel
theorem dX12_build_246 : decode cX12_build 246 = .ok (.ishr, 1) := by decide +kernel
theorem dX12_build_247 : decode cX12_build 247 = .ok (.iconst 1, 1) := by decide +kernel
theorem dX12_build_248 : decode cX12_build 248 = .ok (.iand, 1) := by decide +kernel
theorem dX12_build_249 : decode cX12_build 249 = .ok (.iconst 1, 1) := by decide +kernel
theorem dX12_build_250 : decode cX12_build 250 = .ok (.if_icmp .ne 75, 3) := by decide +kernel
theorem dX12_build_253 : decode cX12_build 253 = .ok (.iconst 0, 1) := by decide +kernel
theorem dX12_build_254 : decode cX12_build 254 = .ok (.istore 10, 2) := by decide +kernel
theorem dX12_build_256 : decode cX12_build 256 = .ok (.iload 10, 2) := by decide +kernel
theorem dX12_build_258 : decode cX12_build 258 = .ok (.iload 5, 2) := by decide +kernel
theorem dX12_build_260 : decode cX12_build 260 = .ok (.if_icmp .ge 47, 3) := by decide +kernel
theorem dX12_build_263 : decode cX12_build 263 = .ok (.aload 6, 2) := by decide +kernel
theorem dX12_build_265 : decode cX12_build 265 = .ok (.getfield 81, 3) := by decide +kernel
theorem dX12_build_268 : decode cX12_build 268 = .ok (.iload 10, 2) := by decide +kernel
theorem dX12_build_270 : decode cX12_build 270 = .ok (.iconst 0, 1) := by decide +kernel
theorem dX12_build_271 : decode cX12_build 271 = .ok (.bipush 99, 2) := by decide +kernel
theorem dX12_build_273 : decode cX12_build 273 = .ok (.iload 7, 2) := by decide +kernel
theorem dX12_build_275 : decode cX12_build 275 = .ok (.iload 10, 2) := by decide +kernel
theorem dX12_build_277 : decode cX12_build 277 = .ok (.iload 8, 2) := by decide +kernel
theorem dX12_build_279 : decode cX12_build 279 = .ok (.imul, 1) := by decide +kernel
theorem dX12_build_280 : decode cX12_build 280 = .ok (.iadd, 1) := by decide +kernel
theorem dX12_build_281 : decode cX12_build 281 = .ok (.invokestatic 108, 3) := by decide +kernel
theorem dX12_build_284 : decode cX12_build 284 = .ok (.invokestatic 113, 3) := by decide +kernel
theorem dX12_build_287 : decode cX12_build 287 = .ok (.iastore, 1) := by decide +kernel
theorem dX12_build_288 : decode cX12_build 288 = .ok (.iload 9, 2) := by decide +kernel
theorem dX12_build_290 : decode cX12_build 290 = .ok (.aload 6, 2) := by decide +kernel
theorem dX12_build_292 : decode cX12_build 292 = .ok (.getfield 81, 3) := by decide +kernel
theorem dX12_build_295 : decode cX12_build 295 = .ok (.iload 10, 2) := by decide +kernel
theorem dX12_build_297 : decode cX12_build 297 = .ok (.iaload, 1) := by decide +kernel
theorem dX12_build_298 : decode cX12_build 298 = .ok (.iadd, 1) := by decide +kernel
theorem dX12_build_299 : decode cX12_build 299 = .ok (.istore 9, 2) := by decide +kernel
theorem dX12_build_301 : decode cX12_build 301 = .ok (.iinc 10 1, 3) := by decide +kernel
theorem dX12_build_304 : decode cX12_build 304 = .ok (.goto (-48), 3) := by decide +kernel
theorem dX12_build_307 : decode cX12_build 307 = .ok (.aload_n 1, 1) := by decide +kernel
theorem dX12_build_308 : decode cX12_build 308 = .ok (.iconst 2, 1) := by decide +kernel
theorem dX12_build_309 : decode cX12_build 309 = .ok (.bipush 8, 2) := by decide +kernel
theorem dX12_build_311 : decode cX12_build 311 = .ok (.iload 7, 2) := by decide +kernel
theorem dX12_build_313 : decode cX12_build 313 = .ok (.iload 8, 2) := by decide +kernel
theorem dX12_build_315 : decode cX12_build 315 = .ok (.invokevirtual 177, 3) := by decide +kernel
theorem dX12_build_318 : decode cX12_build 318 = .ok (.iload 9, 2) := by decide +kernel
theorem dX12_build_320 : decode cX12_build 320 = .ok (.if_icmp .eq 5, 3) := by decide +kernel
theorem dX12_build_323 : decode cX12_build 323 = .ok (.aconst_null, 1) := by decide +kernel
theorem dX12_build_324 : decode cX12_build 324 = .ok (.areturn, 1) := by decide +kernel
theorem dX12_build_325 : decode cX12_build 325 = .ok (.aload_n 2, 1) := by decide +kernel
theorem dX12_build_326 : decode cX12_build 326 = .ok (.iconst 0, 1) := by decide +kernel
theorem dX12_build_327 : decode cX12_build 327 = .ok (.invokestatic 139, 3) := by decide +kernel
theorem dX12_build_330 : decode cX12_build 330 = .ok (.bipush 18, 2) := by decide +kernel
theorem dX12_build_332 : decode cX12_build 332 = .ok (.ishr, 1) := by decide +kernel
theorem dX12_build_333 : decode cX12_build 333 = .ok (.iload 4, 2) := by decide +kernel
theorem dX12_build_335 : decode cX12_build 335 = .ok (.iconst 1, 1) := by decide +kernel
theorem dX12_build_336 : decode cX12_build 336 = .ok (.iadd, 1) := by decide +kernel
theorem dX12_build_337 : decode cX12_build 337 = .ok (.invokestatic 143, 3) := by decide +kernel
theorem dX12_build_340 : decode cX12_build 340 = .ok (.istore 10, 2) := by decide +kernel
theorem dX12_build_342 : decode cX12_build 342 = .ok (.aload_n 0, 1) := by decide +kernel
theorem dX12_build_343 : decode cX12_build 343 = .ok (.iload 10, 2) := by decide +kernel
theorem dX12_build_345 : decode cX12_build 345 = .ok (.anewarray 156, 3) := by decide +kernel
theorem dX12_build_348 : decode cX12_build 348 = .ok (.putfield 124, 3) := by decide +kernel
theorem dX12_build_351 : decode cX12_build 351 = .ok (.aload 6, 2) := by decide +kernel
theorem dX12_build_353 : decode cX12_build 353 = .ok (.iload 10, 2) := by decide +kernel
theorem dX12_build_355 : decode cX12_build 355 = .ok (.newarray .boolean, 2) := by decide +kernel
theorem dX12_build_357 : decode cX12_build 357 = .ok (.putfield 116, 3) := by decide +kernel
theorem dX12_build_360 : decode cX12_build 360 = .ok (.iconst 0, 1) := by decide +kernel
theorem dX12_build_361 : decode cX12_build 361 = .ok (.istore 11, 2) := by decide +kernel
theorem dX12_build_363 : decode cX12_build 363 = .ok (.iload 11, 2) := by decide +kernel
theorem dX12_build_365 : decode cX12_build 365 = .ok (.iload 10, 2) := by decide +kernel
theorem dX12_build_367 : decode cX12_build 367 = .ok (.if_icmp .ge 124, 3) := by decide +kernel
theorem dX12_build_370 : decode cX12_build 370 = .ok (.aload_n 2, 1) := by decide +kernel
theorem dX12_build_371 : decode cX12_build 371 = .ok (.bipush 9, 2) := by decide +kernel
theorem dX12_build_373 : decode cX12_build 373 = .ok (.iload 11, 2) := by decide +kernel
theorem dX12_build_375 : decode cX12_build 375 = .ok (.iadd, 1) := by decide +kernel
theorem dX12_build_376 : decode cX12_build 376 = .ok (.invokestatic 139, 3) := by decide +kernel
theorem dX12_build_379 : decode cX12_build 379 = .ok (.istore 12, 2) := by decide +kernel
theorem dX12_build_381 : decode cX12_build 381 = .ok (.aload_n 0, 1) := by decide +kernel
theorem dX12_build_382 : decode cX12_build 382 = .ok (.getfield 124, 3) := by decide +kernel
theorem dX12_build_385 : decode cX12_build 385 = .ok (.iload 11, 2) := by decide +kernel
theorem dX12_build_387 : decode cX12_build 387 = .ok (.iconst 2, 1) := by decide +kernel
theorem dX12_build_388 : decode cX12_build 388 = .ok (.newarray .int, 2) := by decide +kernel
theorem dX12_build_390 : decode cX12_build 390 = .ok (.dup, 1) := by decide +kernel
theorem dX12_build_391 : decode cX12_build 391 = .ok (.iconst 0, 1) := by decide +kernel
theorem dX12_build_392 : decode cX12_build 392 = .ok (.iconst 1, 1) := by decide +kernel
theorem dX12_build_393 : decode cX12_build 393 = .ok (.iload 12, 2) := by decide +kernel
theorem dX12_build_395 : decode cX12_build 395 = .ok (.bipush 9, 2) := by decide +kernel
theorem dX12_build_397 : decode cX12_build 397 = .ok (.invokestatic 143, 3) := by decide +kernel
theorem dX12_build_400 : decode cX12_build 400 = .ok (.iadd, 1) := by decide +kernel
theorem dX12_build_401 : decode cX12_build 401 = .ok (.iastore, 1) := by decide +kernel
theorem dX12_build_402 : decode cX12_build 402 = .ok (.dup, 1) := by decide +kernel
theorem dX12_build_403 : decode cX12_build 403 = .ok (.iconst 1, 1) := by decide +kernel
theorem dX12_build_404 : decode cX12_build 404 = .ok (.iload 12, 2) := by decide +kernel
theorem dX12_build_406 : decode cX12_build 406 = .ok (.iconst 4, 1) := by decide +kernel
theorem dX12_build_407 : decode cX12_build 407 = .ok (.ishr, 1) := by decide +kernel
theorem dX12_build_408 : decode cX12_build 408 = .ok (.iload 12, 2) := by decide +kernel
theorem dX12_build_410 : decode cX12_build 410 = .ok (.bipush 9, 2) := by decide +kernel
theorem dX12_build_412 : decode cX12_build 412 = .ok (.ishr, 1) := by decide +kernel
theorem dX12_build_413 : decode cX12_build 413 = .ok (.iconst 1, 1) := by decide +kernel
theorem dX12_build_414 : decode cX12_build 414 = .ok (.iand, 1) := by decide +kernel
theorem dX12_build_415 : decode cX12_build 415 = .ok (.ifCond .ne 7, 3) := by decide +kernel
theorem dX12_build_418 : decode cX12_build 418 = .ok (.iconst 4, 1) := by decide +kernel
theorem dX12_build_419 : decode cX12_build 419 = .ok (.goto 5, 3) := by decide +kernel
theorem dX12_build_422 : decode cX12_build 422 = .ok (.bipush 10, 2) := by decide +kernel
theorem dX12_build_424 : decode cX12_build 424 = .ok (.invokestatic 143, 3) := by decide +kernel
theorem dX12_build_427 : decode cX12_build 427 = .ok (.iastore, 1) := by decide +kernel
theorem dX12_build_428 : decode cX12_build 428 = .ok (.aastore, 1) := by decide +kernel
theorem dX12_build_429 : decode cX12_build 429 = .ok (.aload_n 1, 1) := by decide +kernel
theorem dX12_build_430 : decode cX12_build 430 = .ok (.new 158, 3) := by decide +kernel
theorem dX12_build_433 : decode cX12_build 433 = .ok (.dup, 1) := by decide +kernel
theorem dX12_build_434 : decode cX12_build 434 = .ok (.invokespecial 160, 3) := by decide +kernel
theorem dX12_build_437 : decode cX12_build 437 = .ok (.ldc 161, 2) := by decide +kernel
theorem dX12_build_439 : decode cX12_build 439 = .ok (.invokevirtual 163, 3) := by decide +kernel
theorem dX12_build_442 : decode cX12_build 442 = .ok (.aload_n 0, 1) := by decide +kernel
theorem dX12_build_443 : decode cX12_build 443 = .ok (.getfield 124, 3) := by decide +kernel
theorem dX12_build_446 : decode cX12_build 446 = .ok (.iload 11, 2) := by decide +kernel
theorem dX12_build_448 : decode cX12_build 448 = .ok (.aaload, 1) := by decide +kernel
theorem dX12_build_449 : decode cX12_build 449 = .ok (.iconst 0, 1) := by decide +kernel
theorem dX12_build_450 : decode cX12_build 450 = .ok (.iaload, 1) := by decide +kernel
theorem dX12_build_451 : decode cX12_build 451 = .ok (.invokevirtual 167, 3) := by decide +kernel
theorem dX12_build_454 : decode cX12_build 454 = .ok (.aload_n 0, 1) := by decide +kernel
theorem dX12_build_455 : decode cX12_build 455 = .ok (.getfield 124, 3) := by decide +kernel
theorem dX12_build_458 : decode cX12_build 458 = .ok (.iload 11, 2) := by decide +kernel
theorem dX12_build_460 : decode cX12_build 460 = .ok (.aaload, 1) := by decide +kernel
theorem dX12_build_461 : decode cX12_build 461 = .ok (.iconst 1, 1) := by decide +kernel
theorem dX12_build_462 : decode cX12_build 462 = .ok (.iaload, 1) := by decide +kernel
theorem dX12_build_463 : decode cX12_build 463 = .ok (.invokevirtual 167, 3) := by decide +kernel
theorem dX12_build_466 : decode cX12_build 466 = .ok (.invokevirtual 170, 3) := by decide +kernel
theorem dX12_build_469 : decode cX12_build 469 = .ok (.invokestatic 150, 3) := by decide +kernel
theorem dX12_build_472 : decode cX12_build 472 = .ok (.ifCond .eq 11, 3) := by decide +kernel
theorem dX12_build_475 : decode cX12_build 475 = .ok (.aload_n 1, 1) := by decide +kernel
theorem dX12_build_476 : decode cX12_build 476 = .ok (.invokevirtual 181, 3) := by decide +kernel
theorem dX12_build_479 : decode cX12_build 479 = .ok (.iconst 1, 1) := by decide +kernel
theorem dX12_build_480 : decode cX12_build 480 = .ok (.if_icmp .eq 5, 3) := by decide +kernel
theorem dX12_build_483 : decode cX12_build 483 = .ok (.aconst_null, 1) := by decide +kernel
theorem dX12_build_484 : decode cX12_build 484 = .ok (.areturn, 1) := by decide +kernel
theorem dX12_build_485 : decode cX12_build 485 = .ok (.iinc 11 1, 3) := by decide +kernel
theorem dX12_build_488 : decode cX12_build 488 = .ok (.goto (-125), 3) := by decide +kernel
theorem dX12_build_491 : decode cX12_build 491 = .ok (.aload_n 2, 1) := by decide +kernel
theorem dX12_build_492 : decode cX12_build 492 = .ok (.bipush 17, 2) := by decide +kernel
theorem dX12_build_494 : decode cX12_build 494 = .ok (.invokestatic 139, 3) := by decide +kernel
theorem dX12_build_497 : decode cX12_build 497 = .ok (.istore 11, 2) := by decide +kernel
theorem dX12_build_499 : decode cX12_build 499 = .ok (.aload_n 0, 1) := by decide +kernel
theorem dX12_build_500 : decode cX12_build 500 = .ok (.iconst 1, 1) := by decide +kernel
theorem dX12_build_501 : decode cX12_build 501 = .ok (.iload 11, 2) := by decide +kernel
theorem dX12_build_503 : decode cX12_build 503 = .ok (.iload 11, 2) := by decide +kernel
theorem dX12_build_505 : decode cX12_build 505 = .ok (.bipush 10, 2) := by decide +kernel
theorem dX12_build_507 : decode cX12_build 507 = .ok (.ishr, 1) := by decide +kernel
theorem dX12_build_508 : decode cX12_build 508 = .ok (.iconst 1, 1) := by decide +kernel
theorem dX12_build_509 : decode cX12_build 509 = .ok (.iand, 1) := by decide +kernel
theorem dX12_build_510 : decode cX12_build 510 = .ok (.ifCond .ne 8, 3) := by decide +kernel
theorem dX12_build_513 : decode cX12_build 513 = .ok (.bipush 8, 2) := by decide +kernel
theorem dX12_build_515 : decode cX12_build 515 = .ok (.goto 5, 3) := by decide +kernel
theorem dX12_build_518 : decode cX12_build 518 = .ok (.bipush 30, 2) := by decide +kernel
theorem dX12_build_520 : decode cX12_build 520 = .ok (.invokestatic 143, 3) := by decide +kernel
theorem dX12_build_523 : decode cX12_build 523 = .ok (.iadd, 1) := by decide +kernel
theorem dX12_build_524 : decode cX12_build 524 = .ok (.putfield 64, 3) := by decide +kernel
theorem dX12_build_527 : decode cX12_build 527 = .ok (.aload_n 0, 1) := by decide +kernel
theorem dX12_build_528 : decode cX12_build 528 = .ok (.iload 11, 2) := by decide +kernel
theorem dX12_build_530 : decode cX12_build 530 = .ok (.iconst 5, 1) := by decide +kernel
theorem dX12_build_531 : decode cX12_build 531 = .ok (.ishr, 1) := by decide +kernel
theorem dX12_build_532 : decode cX12_build 532 = .ok (.bipush 10, 2) := by decide +kernel
theorem dX12_build_534 : decode cX12_build 534 = .ok (.invokestatic 143, 3) := by decide +kernel
theorem dX12_build_537 : decode cX12_build 537 = .ok (.putfield 67, 3) := by decide +kernel
theorem dX12_build_540 : decode cX12_build 540 = .ok (.aload_n 0, 1) := by decide +kernel
theorem dX12_build_541 : decode cX12_build 541 = .ok (.iload 11, 2) := by decide +kernel
theorem dX12_build_543 : decode cX12_build 543 = .ok (.bipush 11, 2) := by decide +kernel
theorem dX12_build_545 : decode cX12_build 545 = .ok (.ishr, 1) := by decide +kernel
theorem dX12_build_546 : decode cX12_build 546 = .ok (.iload 11, 2) := by decide +kernel
theorem dX12_build_548 : decode cX12_build 548 = .ok (.bipush 15, 2) := by decide +kernel
theorem dX12_build_550 : decode cX12_build 550 = .ok (.ishr, 1) := by decide +kernel
theorem dX12_build_551 : decode cX12_build 551 = .ok (.iconst 1, 1) := by decide +kernel
theorem dX12_build_552 : decode cX12_build 552 = .ok (.iand, 1) := by decide +kernel
theorem dX12_build_553 : decode cX12_build 553 = .ok (.ifCond .ne 7, 3) := by decide +kernel
theorem dX12_build_556 : decode cX12_build 556 = .ok (.iconst 4, 1) := by decide +kernel
theorem dX12_build_557 : decode cX12_build 557 = .ok (.goto 5, 3) := by decide +kernel
theorem dX12_build_560 : decode cX12_build 560 = .ok (.bipush 10, 2) := by decide +kernel
theorem dX12_build_562 : decode cX12_build 562 = .ok (.invokestatic 143, 3) := by decide +kernel
theorem dX12_build_565 : decode cX12_build 565 = .ok (.putfield 99, 3) := by decide +kernel
theorem dX12_build_568 : decode cX12_build 568 = .ok (.aload_n 1, 1) := by decide +kernel
theorem dX12_build_569 : decode cX12_build 569 = .ok (.iconst 0, 1) := by decide +kernel
theorem dX12_build_570 : decode cX12_build 570 = .ok (.aload_n 0, 1) := by decide +kernel
theorem dX12_build_571 : decode cX12_build 571 = .ok (.getfield 64, 3) := by decide +kernel
theorem dX12_build_574 : decode cX12_build 574 = .ok (.invokevirtual 183, 3) := by decide +kernel
theorem dX12_build_577 : decode cX12_build 577 = .ok (.iconst 5, 1) := by decide +kernel
theorem dX12_build_578 : decode cX12_build 578 = .ok (.if_icmp .ne 28, 3) := by decide +kernel
theorem dX12_build_581 : decode cX12_build 581 = .ok (.aload_n 1, 1) := by decide +kernel
theorem dX12_build_582 : decode cX12_build 582 = .ok (.iconst 1, 1) := by decide +kernel
theorem dX12_build_583 : decode cX12_build 583 = .ok (.aload_n 0, 1) := by decide +kernel
theorem dX12_build_584 : decode cX12_build 584 = .ok (.getfield 67, 3) := by decide +kernel
theorem dX12_build_587 : decode cX12_build 587 = .ok (.invokevirtual 183, 3) := by decide +kernel
theorem dX12_build_590 : decode cX12_build 590 = .ok (.ifCond .ne 16, 3) := by decide +kernel
theorem dX12_build_593 : decode cX12_build 593 = .ok (.aload_n 1, 1) := by decide +kernel
theorem dX12_build_594 : decode cX12_build 594 = .ok (.iconst 2, 1) := by decide +kernel
theorem dX12_build_595 : decode cX12_build 595 = .ok (.aload_n 0, 1) := by decide +kernel
theorem dX12_build_596 : decode cX12_build 596 = .ok (.getfield 99, 3) := by decide +kernel
theorem dX12_build_599 : decode cX12_build 599 = .ok (.invokevirtual 183, 3) := by decide +kernel
theorem dX12_build_602 : decode cX12_build 602 = .ok (.iconst 2, 1) := by decide +kernel
theorem dX12_build_603 : decode cX12_build 603 = .ok (.if_icmp .eq 5, 3) := by decide +kernel
theorem dX12_build_606 : decode cX12_build 606 = .ok (.aconst_null, 1) := by decide +kernel
theorem dX12_build_607 : decode cX12_build 607 = .ok (.areturn, 1) := by decide +kernel
theorem dX12_build_608 : decode cX12_build 608 = .ok (.iconst 0, 1) := by decide +kernel
theorem dX12_build_609 : decode cX12_build 609 = .ok (.istore 12, 2) := by decide +kernel
theorem dX12_build_611 : decode cX12_build 611 = .ok (.iload 12, 2) := by decide +kernel
theorem dX12_build_613 : decode cX12_build 613 = .ok (.iconst 3, 1) := by decide +kernel
theorem dX12_build_614 : decode cX12_build 614 = .ok (.if_icmp .ge 66, 3) := by decide +kernel
theorem dX12_build_617 : decode cX12_build 617 = .ok (.iload 5, 2) := by decide +kernel
theorem dX12_build_619 : decode cX12_build 619 = .ok (.ifCond .le 61, 3) := by decide +kernel
theorem dX12_build_622 : decode cX12_build 622 = .ok (.iload 11, 2) := by decide +kernel
theorem dX12_build_624 : decode cX12_build 624 = .ok (.bipush 16, 2) := by decide +kernel
theorem dX12_build_626 : decode cX12_build 626 = .ok (.iconst 3, 1) := by decide +kernel
theorem dX12_build_627 : decode cX12_build 627 = .ok (.iload 12, 2) := by decide +kernel
theorem dX12_build_629 : decode cX12_build 629 = .ok (.imul, 1) := by decide +kernel
theorem dX12_build_630 : decode cX12_build 630 = .ok (.iadd, 1) := by decide +kernel
theorem dX12_build_631 : decode cX12_build 631 = .ok (.ishr, 1) := by decide +kernel
theorem dX12_build_632 : decode cX12_build 632 = .ok (.iload 5, 2) := by decide +kernel
theorem dX12_build_634 : decode cX12_build 634 = .ok (.invokestatic 143, 3) := by decide +kernel
theorem dX12_build_637 : decode cX12_build 637 = .ok (.istore 13, 2) := by decide +kernel
theorem dX12_build_639 : decode cX12_build 639 = .ok (.iload 11, 2) := by decide +kernel
theorem dX12_build_641 : decode cX12_build 641 = .ok (.bipush 25, 2) := by decide +kernel
theorem dX12_build_643 : decode cX12_build 643 = .ok (.iload 12, 2) := by decide +kernel
theorem dX12_build_645 : decode cX12_build 645 = .ok (.iadd, 1) := by decide +kernel
theorem dX12_build_646 : decode cX12_build 646 = .ok (.ishr, 1) := by decide +kernel
theorem dX12_build_647 : decode cX12_build 647 = .ok (.iconst 1, 1) := by decide +kernel
theorem dX12_build_648 : decode cX12_build 648 = .ok (.iand, 1) := by decide +kernel
theorem dX12_build_649 : decode cX12_build 649 = .ok (.ifCond .ne 6, 3) := by decide +kernel
theorem dX12_build_652 : decode cX12_build 652 = .ok (.goto 22, 3) := by decide +kernel
theorem dX12_build_655 : decode cX12_build 655 = .ok (.aload_n 1, 1) := by decide +kernel
theorem dX12_build_656 : decode cX12_build 656 = .ok (.iload 13, 2) := by decide +kernel
theorem dX12_build_658 : decode cX12_build 658 = .ok (.invokevirtual 186, 3) := by decide +kernel
theorem dX12_build_661 : decode cX12_build 661 = .ok (.aload_n 0, 1) := by decide +kernel
theorem dX12_build_662 : decode cX12_build 662 = .ok (.aload 6, 2) := by decide +kernel
theorem dX12_build_664 : decode cX12_build 664 = .ok (.iload 13, 2) := by decide +kernel
theorem dX12_build_666 : decode cX12_build 666 = .ok (.invokevirtual 189, 3) := by decide +kernel
theorem dX12_build_669 : decode cX12_build 669 = .ok (.if_icmp .eq 5, 3) := by decide +kernel
theorem dX12_build_672 : decode cX12_build 672 = .ok (.aconst_null, 1) := by decide +kernel
theorem dX12_build_673 : decode cX12_build 673 = .ok (.areturn, 1) := by decide +kernel
theorem dX12_build_674 : decode cX12_build 674 = .ok (.iinc 12 1, 3) := by decide +kernel
theorem dX12_build_677 : decode cX12_build 677 = .ok (.goto (-66), 3) := by decide +kernel
theorem dX12_build_680 : decode cX12_build 680 = .ok (.aload_n 2, 1) := by decide +kernel
theorem dX12_build_681 : decode cX12_build 681 = .ok (.bipush 18, 2) := by decide +kernel
theorem dX12_build_683 : decode cX12_build 683 = .ok (.invokestatic 139, 3) := by decide +kernel
theorem dX12_build_686 : decode cX12_build 686 = .ok (.aload_n 2, 1) := by decide +kernel
theorem dX12_build_687 : decode cX12_build 687 = .ok (.bipush 18, 2) := by decide +kernel
theorem dX12_build_689 : decode cX12_build 689 = .ok (.invokestatic 139, 3) := by decide +kernel
theorem dX12_build_692 : decode cX12_build 692 = .ok (.bipush 8, 2) := by decide +kernel
theorem dX12_build_694 : decode cX12_build 694 = .ok (.ishr, 1) := by decide +kernel
theorem dX12_build_695 : decode cX12_build 695 = .ok (.iconst 1, 1) := by decide +kernel
theorem dX12_build_696 : decode cX12_build 696 = .ok (.iand, 1) := by decide +kernel
theorem dX12_build_697 : decode cX12_build 697 = .ok (.ifCond .ne 8, 3) := by decide +kernel
theorem dX12_build_700 : decode cX12_build 700 = .ok (.bipush 6, 2) := by decide +kernel
theorem dX12_build_702 : decode cX12_build 702 = .ok (.goto 5, 3) := by decide +kernel
theorem dX12_build_705 : decode cX12_build 705 = .ok (.bipush 60, 2) := by decide +kernel
theorem dX12_build_707 : decode cX12_build 707 = .ok (.invokestatic 143, 3) := by decide +kernel
theorem dX12_build_710 : decode cX12_build 710 = .ok (.istore 12, 2) := by decide +kernel
theorem dX12_build_712 : decode cX12_build 712 = .ok (.aload 6, 2) := by decide +kernel
theorem dX12_build_714 : decode cX12_build 714 = .ok (.getfield 102, 3) := by decide +kernel
theorem dX12_build_717 : decode cX12_build 717 = .ok (.istore 13, 2) := by decide +kernel
theorem dX12_build_719 : decode cX12_build 719 = .ok (.aload_n 1, 1) := by decide +kernel
theorem dX12_build_720 : decode cX12_build 720 = .ok (.iload 12, 2) := by decide +kernel
theorem dX12_build_722 : decode cX12_build 722 = .ok (.invokevirtual 192, 3) := by decide +kernel
theorem dX12_build_725 : decode cX12_build 725 = .ok (.aload_n 0, 1) := by decide +kernel
theorem dX12_build_726 : decode cX12_build 726 = .ok (.aload 6, 2) := by decide +kernel
theorem dX12_build_728 : decode cX12_build 728 = .ok (.iload 12, 2) := by decide +kernel
theorem dX12_build_730 : decode cX12_build 730 = .ok (.invokevirtual 195, 3) := by decide +kernel
theorem dX12_build_733 : decode cX12_build 733 = .ok (.if_icmp .ne 34, 3) := by decide +kernel
theorem dX12_build_736 : decode cX12_build 736 = .ok (.aload_n 1, 1) := by decide +kernel
theorem dX12_build_737 : decode cX12_build 737 = .ok (.iconst 2, 1) := by decide +kernel
theorem dX12_build_738 : decode cX12_build 738 = .ok (.newarray .long, 2) := by decide +kernel
theorem dX12_build_740 : decode cX12_build 740 = .ok (.dup, 1) := by decide +kernel
theorem dX12_build_741 : decode cX12_build 741 = .ok (.iconst 0, 1) := by decide +kernel
theorem dX12_build_742 : decode cX12_build 742 = .ok (.aload 6, 2) := by decide +kernel
theorem dX12_build_744 : decode cX12_build 744 = .ok (.getfield 102, 3) := by decide +kernel
theorem dX12_build_747 : decode cX12_build 747 = .ok (.iload 13, 2) := by decide +kernel
theorem dX12_build_749 : decode cX12_build 749 = .ok (.isub, 1) := by decide +kernel
theorem dX12_build_750 : decode cX12_build 750 = .ok (.i2l, 1) := by decide +kernel
theorem dX12_build_751 : decode cX12_build 751 = .ok (.lastore, 1) := by decide +kernel
theorem dX12_build_752 : decode cX12_build 752 = .ok (.dup, 1) := by decide +kernel
theorem dX12_build_753 : decode cX12_build 753 = .ok (.iconst 1, 1) := by decide +kernel
theorem dX12_build_754 : decode cX12_build 754 = .ok (.aload 6, 2) := by decide +kernel
theorem dX12_build_756 : decode cX12_build 756 = .ok (.invokevirtual 198, 3) := by decide +kernel
theorem dX12_build_759 : decode cX12_build 759 = .ok (.i2l, 1) := by decide +kernel
theorem dX12_build_760 : decode cX12_build 760 = .ok (.lastore, 1) := by decide +kernel
theorem dX12_build_761 : decode cX12_build 761 = .ok (.invokestatic 51, 3) := by decide +kernel
theorem dX12_build_764 : decode cX12_build 764 = .ok (.ifCond .ne 5, 3) := by decide +kernel
theorem dX12_build_767 : decode cX12_build 767 = .ok (.aconst_null, 1) := by decide +kernel
theorem dX12_build_768 : decode cX12_build 768 = .ok (.areturn, 1) := by decide +kernel
theorem dX12_build_769 : decode cX12_build 769 = .ok (.aload_n 0, 1) := by decide +kernel
theorem dX12_build_770 : decode cX12_build 770 = .ok (.aload_n 1, 1) := by decide +kernel
theorem dX12_build_771 : decode cX12_build 771 = .ok (.aload 6, 2) := by decide +kernel
theorem dX12_build_773 : decode cX12_build 773 = .ok (.invokevirtual 201, 3) := by decide +kernel
theorem dX12_build_776 : decode cX12_build 776 = .ok (.ifCond .eq 8, 3) := by decide +kernel
theorem dX12_build_779 : decode cX12_build 779 = .ok (.aload 6, 2) := by decide +kernel
theorem dX12_build_781 : decode cX12_build 781 = .ok (.goto 4, 3) := by decide +kernel
theorem dX12_build_784 : decode cX12_build 784 = .ok (.aconst_null, 1) := by decide +kernel
theorem dX12_build_785 : decode cX12_build 785 = .ok (.areturn, 1) := by decide +kernel
theorem dX12_isAs_0 : decode cX12_isAs 0 = .ok (.iconst 0, 1) := by decide +kernel
theorem dX12_isAs_1 : decode cX12_isAs 1 = .ok (.istore_n 3, 1) := by decide +kernel
theorem dX12_isAs_2 : decode cX12_isAs 2 = .ok (.iload_n 3, 1) := by decide +kernel
theorem dX12_isAs_3 : decode cX12_isAs 3 = .ok (.aload_n 0, 1) := by decide +kernel
theorem dX12_isAs_4 : decode cX12_isAs 4 = .ok (.getfield 73, 3) := by decide +kernel
theorem dX12_isAs_7 : decode cX12_isAs 7 = .ok (.arraylength, 1) := by decide +kernel
theorem dX12_isAs_8 : decode cX12_isAs 8 = .ok (.if_icmp .ge 69, 3) := by decide +kernel
theorem dX12_isAs_11 : decode cX12_isAs 11 = .ok (.aload_n 1, 1) := by decide +kernel
theorem dX12_isAs_12 : decode cX12_isAs 12 = .ok (.iload_n 3, 1) := by decide +kernel
theorem dX12_isAs_13 : decode cX12_isAs 13 = .ok (.iconst 2, 1) := by decide +kernel
theorem dX12_isAs_14 : decode cX12_isAs 14 = .ok (.invokestatic 205, 3) := by decide +kernel
theorem dX12_isAs_17 : decode cX12_isAs 17 = .ok (.aload_n 2, 1) := by decide +kernel
theorem dX12_isAs_18 : decode cX12_isAs 18 = .ok (.getfield 81, 3) := by decide +kernel
theorem dX12_isAs_21 : decode cX12_isAs 21 = .ok (.iload_n 3, 1) := by decide +kernel
theorem dX12_isAs_22 : decode cX12_isAs 22 = .ok (.iaload, 1) := by decide +kernel
theorem dX12_isAs_23 : decode cX12_isAs 23 = .ok (.if_icmp .ne 46, 3) := by decide +kernel
theorem dX12_isAs_26 : decode cX12_isAs 26 = .ok (.aload_n 1, 1) := by decide +kernel
theorem dX12_isAs_27 : decode cX12_isAs 27 = .ok (.iload_n 3, 1) := by decide +kernel
theorem dX12_isAs_28 : decode cX12_isAs 28 = .ok (.iconst 3, 1) := by decide +kernel
theorem dX12_isAs_29 : decode cX12_isAs 29 = .ok (.invokestatic 205, 3) := by decide +kernel
theorem dX12_isAs_32 : decode cX12_isAs 32 = .ok (.aload_n 2, 1) := by decide +kernel
theorem dX12_isAs_33 : decode cX12_isAs 33 = .ok (.getfield 77, 3) := by decide +kernel
theorem dX12_isAs_36 : decode cX12_isAs 36 = .ok (.iload_n 3, 1) := by decide +kernel
theorem dX12_isAs_37 : decode cX12_isAs 37 = .ok (.baload, 1) := by decide +kernel
theorem dX12_isAs_38 : decode cX12_isAs 38 = .ok (.ifCond .eq 7, 3) := by decide +kernel
theorem dX12_isAs_41 : decode cX12_isAs 41 = .ok (.iconst 1, 1) := by decide +kernel
theorem dX12_isAs_42 : decode cX12_isAs 42 = .ok (.goto 4, 3) := by decide +kernel
theorem dX12_isAs_45 : decode cX12_isAs 45 = .ok (.iconst 0, 1) := by decide +kernel
theorem dX12_isAs_46 : decode cX12_isAs 46 = .ok (.if_icmp .ne 23, 3) := by decide +kernel
theorem dX12_isAs_49 : decode cX12_isAs 49 = .ok (.aload_n 1, 1) := by decide +kernel
theorem dX12_isAs_50 : decode cX12_isAs 50 = .ok (.iload_n 3, 1) := by decide +kernel
theorem dX12_isAs_51 : decode cX12_isAs 51 = .ok (.iconst 4, 1) := by decide +kernel
theorem dX12_isAs_52 : decode cX12_isAs 52 = .ok (.invokestatic 205, 3) := by decide +kernel
theorem dX12_isAs_55 : decode cX12_isAs 55 = .ok (.aload_n 0, 1) := by decide +kernel
theorem dX12_isAs_56 : decode cX12_isAs 56 = .ok (.aload_n 2, 1) := by decide +kernel
theorem dX12_isAs_57 : decode cX12_isAs 57 = .ok (.iconst 1, 1) := by decide +kernel
theorem dX12_isAs_58 : decode cX12_isAs 58 = .ok (.iload_n 3, 1) := by decide +kernel
theorem dX12_isAs_59 : decode cX12_isAs 59 = .ok (.ishl, 1) := by decide +kernel
theorem dX12_isAs_60 : decode cX12_isAs 60 = .ok (.invokevirtual 208, 3) := by decide +kernel
theorem dX12_isAs_63 : decode cX12_isAs 63 = .ok (.invokevirtual 89, 3) := by decide +kernel
theorem dX12_isAs_66 : decode cX12_isAs 66 = .ok (.if_icmp .eq 5, 3) := by decide +kernel
theorem dX12_isAs_69 : decode cX12_isAs 69 = .ok (.iconst 0, 1) := by decide +kernel
theorem dX12_isAs_70 : decode cX12_isAs 70 = .ok (.ireturn, 1) := by decide +kernel
theorem dX12_isAs_71 : decode cX12_isAs 71 = .ok (.iinc 3 1, 3) := by decide +kernel
theorem dX12_isAs_74 : decode cX12_isAs 74 = .ok (.goto (-72), 3) := by decide +kernel
theorem dX12_isAs_77 : decode cX12_isAs 77 = .ok (.iconst 0, 1) := by decide +kernel
theorem dX12_isAs_78 : decode cX12_isAs 78 = .ok (.istore_n 3, 1) := by decide +kernel
theorem dX12_isAs_79 : decode cX12_isAs 79 = .ok (.iload_n 3, 1) := by decide +kernel
theorem dX12_isAs_80 : decode cX12_isAs 80 = .ok (.aload_n 0, 1) := by decide +kernel
theorem dX12_isAs_81 : decode cX12_isAs 81 = .ok (.getfield 124, 3) := by decide +kernel
theorem dX12_isAs_84 : decode cX12_isAs 84 = .ok (.arraylength, 1) := by decide +kernel
theorem dX12_isAs_85 : decode cX12_isAs 85 = .ok (.if_icmp .ge 34, 3) := by decide +kernel
theorem dX12_isAs_88 : decode cX12_isAs 88 = .ok (.aload_n 1, 1) := by decide +kernel
theorem dX12_isAs_89 : decode cX12_isAs 89 = .ok (.iload_n 3, 1) := by decide +kernel
theorem dX12_isAs_90 : decode cX12_isAs 90 = .ok (.iconst 2, 1) := by decide +kernel
theorem dX12_isAs_91 : decode cX12_isAs 91 = .ok (.invokestatic 212, 3) := by decide +kernel
theorem dX12_isAs_94 : decode cX12_isAs 94 = .ok (.aload_n 2, 1) := by decide +kernel
theorem dX12_isAs_95 : decode cX12_isAs 95 = .ok (.getfield 116, 3) := by decide +kernel
theorem dX12_isAs_98 : decode cX12_isAs 98 = .ok (.iload_n 3, 1) := by decide +kernel
theorem dX12_isAs_99 : decode cX12_isAs 99 = .ok (.baload, 1) := by decide +kernel
theorem dX12_isAs_100 : decode cX12_isAs 100 = .ok (.ifCond .eq 7, 3) := by decide +kernel
theorem dX12_isAs_103 : decode cX12_isAs 103 = .ok (.iconst 1, 1) := by decide +kernel
theorem dX12_isAs_104 : decode cX12_isAs 104 = .ok (.goto 4, 3) := by decide +kernel
theorem dX12_isAs_107 : decode cX12_isAs 107 = .ok (.iconst 0, 1) := by decide +kernel
theorem dX12_isAs_108 : decode cX12_isAs 108 = .ok (.if_icmp .eq 5, 3) := by decide +kernel
theorem dX12_isAs_111 : decode cX12_isAs 111 = .ok (.iconst 0, 1) := by decide +kernel
theorem dX12_isAs_112 : decode cX12_isAs 112 = .ok (.ireturn, 1) := by decide +kernel
theorem dX12_isAs_113 : decode cX12_isAs 113 = .ok (.iinc 3 1, 3) := by decide +kernel
theorem dX12_isAs_116 : decode cX12_isAs 116 = .ok (.goto (-37), 3) := by decide +kernel
theorem dX12_isAs_119 : decode cX12_isAs 119 = .ok (.aload_n 1, 1) := by decide +kernel
theorem dX12_isAs_120 : decode cX12_isAs 120 = .ok (.invokevirtual 214, 3) := by decide +kernel
theorem dX12_isAs_123 : decode cX12_isAs 123 = .ok (.aload_n 0, 1) := by decide +kernel
theorem dX12_isAs_124 : decode cX12_isAs 124 = .ok (.aload_n 2, 1) := by decide +kernel
theorem dX12_isAs_125 : decode cX12_isAs 125 = .ok (.invokevirtual 89, 3) := by decide +kernel
theorem dX12_isAs_128 : decode cX12_isAs 128 = .ok (.if_icmp .ne 107, 3) := by decide +kernel
theorem dX12_isAs_131 : decode cX12_isAs 131 = .ok (.aload_n 1, 1) := by decide +kernel
theorem dX12_isAs_132 : decode cX12_isAs 132 = .ok (.iconst 2, 1) := by decide +kernel
theorem dX12_isAs_133 : decode cX12_isAs 133 = .ok (.invokevirtual 43, 3) := by decide +kernel
theorem dX12_isAs_136 : decode cX12_isAs 136 = .ok (.aload_n 2, 1) := by decide +kernel
theorem dX12_isAs_137 : decode cX12_isAs 137 = .ok (.invokevirtual 131, 3) := by decide +kernel
theorem dX12_isAs_140 : decode cX12_isAs 140 = .ok (.if_icmp .ne 95, 3) := by decide +kernel
theorem dX12_isAs_143 : decode cX12_isAs 143 = .ok (.aload_n 1, 1) := by decide +kernel
theorem dX12_isAs_144 : decode cX12_isAs 144 = .ok (.iconst 3, 1) := by decide +kernel
theorem dX12_isAs_145 : decode cX12_isAs 145 = .ok (.invokevirtual 43, 3) := by decide +kernel
theorem dX12_isAs_148 : decode cX12_isAs 148 = .ok (.aload_n 2, 1) := by decide +kernel
theorem dX12_isAs_149 : decode cX12_isAs 149 = .ok (.getfield 70, 3) := by decide +kernel
theorem dX12_isAs_152 : decode cX12_isAs 152 = .ok (.if_icmp .ne 83, 3) := by decide +kernel
theorem dX12_isAs_155 : decode cX12_isAs 155 = .ok (.aload_n 1, 1) := by decide +kernel
theorem dX12_isAs_156 : decode cX12_isAs 156 = .ok (.iconst 4, 1) := by decide +kernel
theorem dX12_isAs_157 : decode cX12_isAs 157 = .ok (.invokevirtual 43, 3) := by decide +kernel
theorem dX12_isAs_160 : decode cX12_isAs 160 = .ok (.aload_n 2, 1) := by decide +kernel
theorem dX12_isAs_161 : decode cX12_isAs 161 = .ok (.getfield 55, 3) := by decide +kernel
theorem dX12_isAs_164 : decode cX12_isAs 164 = .ok (.if_icmp .ne 71, 3) := by decide +kernel
theorem dX12_isAs_167 : decode cX12_isAs 167 = .ok (.aload_n 1, 1) := by decide +kernel
theorem dX12_isAs_168 : decode cX12_isAs 168 = .ok (.iconst 5, 1) := by decide +kernel
theorem dX12_isAs_169 : decode cX12_isAs 169 = .ok (.invokevirtual 43, 3) := by decide +kernel
theorem dX12_isAs_172 : decode cX12_isAs 172 = .ok (.aload_n 2, 1) := by decide +kernel
theorem dX12_isAs_173 : decode cX12_isAs 173 = .ok (.getfield 96, 3) := by decide +kernel
theorem dX12_isAs_176 : decode cX12_isAs 176 = .ok (.if_icmp .ne 59, 3) := by decide +kernel
theorem dX12_isAs_179 : decode cX12_isAs 179 = .ok (.aload_n 1, 1) := by decide +kernel
theorem dX12_isAs_180 : decode cX12_isAs 180 = .ok (.bipush 6, 2) := by decide +kernel
theorem dX12_isAs_182 : decode cX12_isAs 182 = .ok (.invokevirtual 43, 3) := by decide +kernel
theorem dX12_isAs_185 : decode cX12_isAs 185 = .ok (.aload_n 2, 1) := by decide +kernel
theorem dX12_isAs_186 : decode cX12_isAs 186 = .ok (.getfield 93, 3) := by decide +kernel
theorem dX12_isAs_189 : decode cX12_isAs 189 = .ok (.if_icmp .ne 46, 3) := by decide +kernel
theorem dX12_isAs_192 : decode cX12_isAs 192 = .ok (.aload_n 1, 1) := by decide +kernel
theorem dX12_isAs_193 : decode cX12_isAs 193 = .ok (.bipush 7, 2) := by decide +kernel
theorem dX12_isAs_195 : decode cX12_isAs 195 = .ok (.invokevirtual 43, 3) := by decide +kernel
theorem dX12_isAs_198 : decode cX12_isAs 198 = .ok (.aload_n 2, 1) := by decide +kernel
theorem dX12_isAs_199 : decode cX12_isAs 199 = .ok (.getfield 102, 3) := by decide +kernel
theorem dX12_isAs_202 : decode cX12_isAs 202 = .ok (.if_icmp .ne 33, 3) := by decide +kernel
theorem dX12_isAs_205 : decode cX12_isAs 205 = .ok (.aload_n 1, 1) := by decide +kernel
theorem dX12_isAs_206 : decode cX12_isAs 206 = .ok (.bipush 8, 2) := by decide +kernel
theorem dX12_isAs_208 : decode cX12_isAs 208 = .ok (.invokevirtual 43, 3) := by decide +kernel
theorem dX12_isAs_211 : decode cX12_isAs 211 = .ok (.aload_n 2, 1) := by decide +kernel
theorem dX12_isAs_212 : decode cX12_isAs 212 = .ok (.getfield 105, 3) := by decide +kernel
theorem dX12_isAs_215 : decode cX12_isAs 215 = .ok (.if_icmp .ne 20, 3) := by decide +kernel
theorem dX12_isAs_218 : decode cX12_isAs 218 = .ok (.aload_n 1, 1) := by decide +kernel
theorem dX12_isAs_219 : decode cX12_isAs 219 = .ok (.bipush 9, 2) := by decide +kernel
theorem dX12_isAs_221 : decode cX12_isAs 221 = .ok (.invokevirtual 43, 3) := by decide +kernel
theorem dX12_isAs_224 : decode cX12_isAs 224 = .ok (.aload_n 2, 1) := by decide +kernel
theorem dX12_isAs_225 : decode cX12_isAs 225 = .ok (.invokevirtual 198, 3) := by decide +kernel
theorem dX12_isAs_228 : decode cX12_isAs 228 = .ok (.if_icmp .ne 7, 3) := by decide +kernel
theorem dX12_isAs_231 : decode cX12_isAs 231 = .ok (.iconst 1, 1) := by decide +kernel
theorem dX12_isAs_232 : decode cX12_isAs 232 = .ok (.goto 4, 3) := by decide +kernel
theorem dX12_isAs_235 : decode cX12_isAs 235 = .ok (.iconst 0, 1) := by decide +kernel
theorem dX12_isAs_236 : decode cX12_isAs 236 = .ok (.ireturn, 1) := by decide +kernel
theorem dX12_holds_0 : decode cX12_holds 0 = .ok (.new 8, 3) := by decide +kernel
theorem dX12_holds_3 : decode cX12_holds 3 = .ok (.dup, 1) := by decide +kernel
theorem dX12_holds_4 : decode cX12_holds 4 = .ok (.invokespecial 216, 3) := by decide +kernel
theorem dX12_holds_7 : decode cX12_holds 7 = .ok (.astore_n 2, 1) := by decide +kernel
theorem dX12_holds_8 : decode cX12_holds 8 = .ok (.aload_n 0, 1) := by decide +kernel
theorem dX12_holds_9 : decode cX12_holds 9 = .ok (.aload_n 2, 1) := by decide +kernel
theorem dX12_holds_10 : decode cX12_holds 10 = .ok (.aload_n 1, 1) := by decide +kernel
theorem dX12_holds_11 : decode cX12_holds 11 = .ok (.bipush 8, 2) := by decide +kernel
theorem dX12_holds_13 : decode cX12_holds 13 = .ok (.bipush 8, 2) := by decide +kernel
theorem dX12_holds_15 : decode cX12_holds 15 = .ok (.invokevirtual 217, 3) := by decide +kernel
theorem dX12_holds_18 : decode cX12_holds 18 = .ok (.astore_n 3, 1) := by decide +kernel
theorem dX12_holds_19 : decode cX12_holds 19 = .ok (.aload_n 3, 1) := by decide +kernel
theorem dX12_holds_20 : decode cX12_holds 20 = .ok (.ifnonnull 5, 3) := by decide +kernel
theorem dX12_holds_23 : decode cX12_holds 23 = .ok (.iconst 0, 1) := by decide +kernel
theorem dX12_holds_24 : decode cX12_holds 24 = .ok (.ireturn, 1) := by decide +kernel
theorem dX12_holds_25 : decode cX12_holds 25 = .ok (.new 221, 3) := by decide +kernel
theorem dX12_holds_28 : decode cX12_holds 28 = .ok (.dup, 1) := by decide +kernel
theorem dX12_holds_29 : decode cX12_holds 29 = .ok (.invokespecial 223, 3) := by decide +kernel
theorem dX12_holds_32 : decode cX12_holds 32 = .ok (.astore 4, 2) := by decide +kernel
theorem dX12_holds_34 : decode cX12_holds 34 = .ok (.aload_n 2, 1) := by decide +kernel
theorem dX12_holds_35 : decode cX12_holds 35 = .ok (.bipush 14, 2) := by decide +kernel
theorem dX12_holds_37 : decode cX12_holds 37 = .ok (.invokevirtual 43, 3) := by decide +kernel
theorem dX12_holds_40 : decode cX12_holds 40 = .ok (.istore 5, 2) := by decide +kernel
theorem dX12_holds_42 : decode cX12_holds 42 = .ok (.iconst 0, 1) := by decide +kernel
theorem dX12_holds_43 : decode cX12_holds 43 = .ok (.istore 6, 2) := by decide +kernel
theorem dX12_holds_45 : decode cX12_holds 45 = .ok (.iload 6, 2) := by decide +kernel
theorem dX12_holds_47 : decode cX12_holds 47 = .ok (.iload 5, 2) := by decide +kernel
theorem dX12_holds_49 : decode cX12_holds 49 = .ok (.if_icmp .ge 16, 3) := by decide +kernel
theorem dX12_holds_52 : decode cX12_holds 52 = .ok (.aload 4, 2) := by decide +kernel
theorem dX12_holds_54 : decode cX12_holds 54 = .ok (.aconst_null, 1) := by decide +kernel
theorem dX12_holds_55 : decode cX12_holds 55 = .ok (.invokevirtual 224, 3) := by decide +kernel
theorem dX12_holds_58 : decode cX12_holds 58 = .ok (.pop, 1) := by decide +kernel
theorem dX12_holds_59 : decode cX12_holds 59 = .ok (.iinc 6 1, 3) := by decide +kernel
theorem dX12_holds_62 : decode cX12_holds 62 = .ok (.goto (-17), 3) := by decide +kernel
theorem dX12_holds_65 : decode cX12_holds 65 = .ok (.aload_n 0, 1) := by decide +kernel
theorem dX12_holds_66 : decode cX12_holds 66 = .ok (.getfield 73, 3) := by decide +kernel
theorem dX12_holds_69 : decode cX12_holds 69 = .ok (.arraylength, 1) := by decide +kernel
theorem dX12_holds_70 : decode cX12_holds 70 = .ok (.istore 6, 2) := by decide +kernel
theorem dX12_holds_72 : decode cX12_holds 72 = .ok (.bipush 19, 2) := by decide +kernel
theorem dX12_holds_74 : decode cX12_holds 74 = .ok (.istore 7, 2) := by decide +kernel
theorem dX12_holds_76 : decode cX12_holds 76 = .ok (.iload 7, 2) := by decide +kernel
theorem dX12_holds_78 : decode cX12_holds 78 = .ok (.aload_n 1, 1) := by decide +kernel
theorem dX12_holds_79 : decode cX12_holds 79 = .ok (.arraylength, 1) := by decide +kernel
theorem dX12_holds_80 : decode cX12_holds 80 = .ok (.if_icmp .ge 950, 3) := by decide +kernel
theorem dX12_holds_83 : decode cX12_holds 83 = .ok (.iload 7, 2) := by decide +kernel
theorem dX12_holds_85 : decode cX12_holds 85 = .ok (.bipush 63, 2) := by decide +kernel
theorem dX12_holds_87 : decode cX12_holds 87 = .ok (.if_icmp .ge 943, 3) := by decide +kernel
theorem dX12_holds_90 : decode cX12_holds 90 = .ok (.aload_n 1, 1) := by decide +kernel
theorem dX12_holds_91 : decode cX12_holds 91 = .ok (.iload 7, 2) := by decide +kernel
theorem dX12_holds_93 : decode cX12_holds 93 = .ok (.iaload, 1) := by decide +kernel
theorem dX12_holds_94 : decode cX12_holds 94 = .ok (.istore 8, 2) := by decide +kernel
theorem dX12_holds_96 : decode cX12_holds 96 = .ok (.iload 8, 2) := by decide +kernel
theorem dX12_holds_98 : decode cX12_holds 98 = .ok (.bipush 15, 2) := by decide +kernel
theorem dX12_holds_100 : decode cX12_holds 100 = .ok (.iand, 1) := by decide +kernel
theorem dX12_holds_101 : decode cX12_holds 101 = .ok (.istore 9, 2) := by decide +kernel
theorem dX12_holds_103 : decode cX12_holds 103 = .ok (.aload_n 3, 1) := by decide +kernel
theorem dX12_holds_104 : decode cX12_holds 104 = .ok (.invokevirtual 228, 3) := by decide +kernel
theorem dX12_holds_107 : decode cX12_holds 107 = .ok (.astore 10, 2) := by decide +kernel
theorem dX12_holds_109 : decode cX12_holds 109 = .ok (.iconst 0, 1) := by decide +kernel
theorem dX12_holds_110 : decode cX12_holds 110 = .ok (.istore 11, 2) := by decide +kernel
theorem dX12_holds_112 : decode cX12_holds 112 = .ok (.iload 8, 2) := by decide +kernel
theorem dX12_holds_114 : decode cX12_holds 114 = .ok (.iconst 4, 1) := by decide +kernel
theorem dX12_holds_115 : decode cX12_holds 115 = .ok (.ishr, 1) := by decide +kernel
theorem dX12_holds_116 : decode cX12_holds 116 = .ok (.iload 6, 2) := by decide +kernel
theorem dX12_holds_118 : decode cX12_holds 118 = .ok (.iconst 1, 1) := by decide +kernel
theorem dX12_holds_119 : decode cX12_holds 119 = .ok (.iadd, 1) := by decide +kernel
theorem dX12_holds_120 : decode cX12_holds 120 = .ok (.invokestatic 143, 3) := by decide +kernel
theorem dX12_holds_123 : decode cX12_holds 123 = .ok (.istore 12, 2) := by decide +kernel
theorem dX12_holds_125 : decode cX12_holds 125 = .ok (.iload 9, 2) := by decide +kernel
theorem dX12_holds_127 : decode cX12_holds 127 = .ok (.iconst 4, 1) := by decide +kernel
theorem dX12_holds_128 : decode cX12_holds 128 = .ok (.if_icmp .ge 40, 3) := by decide +kernel
theorem dX12_holds_131 : decode cX12_holds 131 = .ok (.aload_n 0, 1) := by decide +kernel
theorem dX12_holds_132 : decode cX12_holds 132 = .ok (.aload_n 3, 1) := by decide +kernel
theorem dX12_holds_133 : decode cX12_holds 133 = .ok (.iload 12, 2) := by decide +kernel
theorem dX12_holds_135 : decode cX12_holds 135 = .ok (.invokevirtual 189, 3) := by decide +kernel
theorem dX12_holds_138 : decode cX12_holds 138 = .ok (.istore 13, 2) := by decide +kernel
theorem dX12_holds_140 : decode cX12_holds 140 = .ok (.iload 13, 2) := by decide +kernel
theorem dX12_holds_142 : decode cX12_holds 142 = .ok (.ifCond .lt 7, 3) := by decide +kernel
theorem dX12_holds_145 : decode cX12_holds 145 = .ok (.iconst 1, 1) := by decide +kernel
theorem dX12_holds_146 : decode cX12_holds 146 = .ok (.goto 4, 3) := by decide +kernel
theorem dX12_holds_149 : decode cX12_holds 149 = .ok (.iconst 0, 1) := by decide +kernel
theorem dX12_holds_150 : decode cX12_holds 150 = .ok (.istore 11, 2) := by decide +kernel
theorem dX12_holds_152 : decode cX12_holds 152 = .ok (.aload_n 2, 1) := by decide +kernel
theorem dX12_holds_153 : decode cX12_holds 153 = .ok (.iload 12, 2) := by decide +kernel
theorem dX12_holds_155 : decode cX12_holds 155 = .ok (.invokevirtual 186, 3) := by decide +kernel
theorem dX12_holds_158 : decode cX12_holds 158 = .ok (.iload 13, 2) := by decide +kernel
theorem dX12_holds_160 : decode cX12_holds 160 = .ok (.if_icmp .eq 5, 3) := by decide +kernel
theorem dX12_holds_163 : decode cX12_holds 163 = .ok (.iconst 0, 1) := by decide +kernel
theorem dX12_holds_164 : decode cX12_holds 164 = .ok (.ireturn, 1) := by decide +kernel
theorem dX12_holds_165 : decode cX12_holds 165 = .ok (.goto 804, 3) := by decide +kernel
theorem dX12_holds_168 : decode cX12_holds 168 = .ok (.iload 9, 2) := by decide +kernel
theorem dX12_holds_170 : decode cX12_holds 170 = .ok (.bipush 6, 2) := by decide +kernel
theorem dX12_holds_172 : decode cX12_holds 172 = .ok (.if_icmp .ge 40, 3) := by decide +kernel
theorem dX12_holds_175 : decode cX12_holds 175 = .ok (.aload_n 0, 1) := by decide +kernel
theorem dX12_holds_176 : decode cX12_holds 176 = .ok (.aload_n 3, 1) := by decide +kernel
theorem dX12_holds_177 : decode cX12_holds 177 = .ok (.iload 12, 2) := by decide +kernel
theorem dX12_holds_179 : decode cX12_holds 179 = .ok (.invokevirtual 232, 3) := by decide +kernel
theorem dX12_holds_182 : decode cX12_holds 182 = .ok (.istore 13, 2) := by decide +kernel
theorem dX12_holds_184 : decode cX12_holds 184 = .ok (.iload 13, 2) := by decide +kernel
theorem dX12_holds_186 : decode cX12_holds 186 = .ok (.ifCond .lt 7, 3) := by decide +kernel
theorem dX12_holds_189 : decode cX12_holds 189 = .ok (.iconst 1, 1) := by decide +kernel
theorem dX12_holds_190 : decode cX12_holds 190 = .ok (.goto 4, 3) := by decide +kernel
theorem dX12_holds_193 : decode cX12_holds 193 = .ok (.iconst 0, 1) := by decide +kernel
theorem dX12_holds_194 : decode cX12_holds 194 = .ok (.istore 11, 2) := by decide +kernel
theorem dX12_holds_196 : decode cX12_holds 196 = .ok (.aload_n 2, 1) := by decide +kernel
theorem dX12_holds_197 : decode cX12_holds 197 = .ok (.iload 12, 2) := by decide +kernel
theorem dX12_holds_199 : decode cX12_holds 199 = .ok (.invokevirtual 235, 3) := by decide +kernel
theorem dX12_holds_202 : decode cX12_holds 202 = .ok (.iload 13, 2) := by decide +kernel
theorem dX12_holds_204 : decode cX12_holds 204 = .ok (.if_icmp .eq 5, 3) := by decide +kernel
theorem dX12_holds_207 : decode cX12_holds 207 = .ok (.iconst 0, 1) := by decide +kernel
theorem dX12_holds_208 : decode cX12_holds 208 = .ok (.ireturn, 1) := by decide +kernel
theorem dX12_holds_209 : decode cX12_holds 209 = .ok (.goto 760, 3) := by decide +kernel
theorem dX12_holds_212 : decode cX12_holds 212 = .ok (.iload 9, 2) := by decide +kernel
theorem dX12_holds_214 : decode cX12_holds 214 = .ok (.bipush 6, 2) := by decide +kernel
theorem dX12_holds_216 : decode cX12_holds 216 = .ok (.if_icmp .ne 79, 3) := by decide +kernel
theorem dX12_holds_219 : decode cX12_holds 219 = .ok (.iload 8, 2) := by decide +kernel
theorem dX12_holds_221 : decode cX12_holds 221 = .ok (.iconst 4, 1) := by decide +kernel
theorem dX12_holds_222 : decode cX12_holds 222 = .ok (.ishr, 1) := by decide +kernel
theorem dX12_holds_223 : decode cX12_holds 223 = .ok (.bipush 101, 2) := by decide +kernel
theorem dX12_holds_225 : decode cX12_holds 225 = .ok (.invokestatic 143, 3) := by decide +kernel
theorem dX12_holds_228 : decode cX12_holds 228 = .ok (.istore 13, 2) := by decide +kernel
theorem dX12_holds_230 : decode cX12_holds 230 = .ok (.iconst (-1), 1) := by decide +kernel
theorem dX12_holds_231 : decode cX12_holds 231 = .ok (.istore 14, 2) := by decide +kernel
theorem dX12_holds_233 : decode cX12_holds 233 = .ok (.iload 13, 2) := by decide +kernel
theorem dX12_holds_235 : decode cX12_holds 235 = .ok (.ifCond .le 32, 3) := by decide +kernel
theorem dX12_holds_238 : decode cX12_holds 238 = .ok (.iload 13, 2) := by decide +kernel
theorem dX12_holds_240 : decode cX12_holds 240 = .ok (.bipush 100, 2) := by decide +kernel
theorem dX12_holds_242 : decode cX12_holds 242 = .ok (.if_icmp .ge 25, 3) := by decide +kernel
theorem dX12_holds_245 : decode cX12_holds 245 = .ok (.aload_n 3, 1) := by decide +kernel
theorem dX12_holds_246 : decode cX12_holds 246 = .ok (.bipush 99, 2) := by decide +kernel
theorem dX12_holds_248 : decode cX12_holds 248 = .ok (.aload_n 3, 1) := by decide +kernel
theorem dX12_holds_249 : decode cX12_holds 249 = .ok (.getfield 70, 3) := by decide +kernel
theorem dX12_holds_252 : decode cX12_holds 252 = .ok (.iload 13, 2) := by decide +kernel
theorem dX12_holds_254 : decode cX12_holds 254 = .ok (.iadd, 1) := by decide +kernel
theorem dX12_holds_255 : decode cX12_holds 255 = .ok (.invokestatic 108, 3) := by decide +kernel
theorem dX12_holds_258 : decode cX12_holds 258 = .ok (.putfield 70, 3) := by decide +kernel
theorem dX12_holds_261 : decode cX12_holds 261 = .ok (.aload_n 3, 1) := by decide +kernel
theorem dX12_holds_262 : decode cX12_holds 262 = .ok (.getfield 70, 3) := by decide +kernel
theorem dX12_holds_265 : decode cX12_holds 265 = .ok (.istore 14, 2) := by decide +kernel
theorem dX12_holds_267 : decode cX12_holds 267 = .ok (.iload 14, 2) := by decide +kernel
theorem dX12_holds_269 : decode cX12_holds 269 = .ok (.ifCond .lt 7, 3) := by decide +kernel
theorem dX12_holds_272 : decode cX12_holds 272 = .ok (.iconst 1, 1) := by decide +kernel
theorem dX12_holds_273 : decode cX12_holds 273 = .ok (.goto 4, 3) := by decide +kernel
theorem dX12_holds_276 : decode cX12_holds 276 = .ok (.iconst 0, 1) := by decide +kernel
theorem dX12_holds_277 : decode cX12_holds 277 = .ok (.istore 11, 2) := by decide +kernel
theorem dX12_holds_279 : decode cX12_holds 279 = .ok (.aload_n 2, 1) := by decide +kernel
theorem dX12_holds_280 : decode cX12_holds 280 = .ok (.iload 13, 2) := by decide +kernel
theorem dX12_holds_282 : decode cX12_holds 282 = .ok (.invokevirtual 237, 3) := by decide +kernel
theorem dX12_holds_285 : decode cX12_holds 285 = .ok (.iload 14, 2) := by decide +kernel
theorem dX12_holds_287 : decode cX12_holds 287 = .ok (.if_icmp .eq 5, 3) := by decide +kernel
theorem dX12_holds_290 : decode cX12_holds 290 = .ok (.iconst 0, 1) := by decide +kernel
theorem dX12_holds_291 : decode cX12_holds 291 = .ok (.ireturn, 1) := by decide +kernel
theorem dX12_holds_292 : decode cX12_holds 292 = .ok (.goto 677, 3) := by decide +kernel
theorem dX12_holds_295 : decode cX12_holds 295 = .ok (.iload 9, 2) := by decide +kernel
theorem dX12_holds_297 : decode cX12_holds 297 = .ok (.bipush 10, 2) := by decide +kernel
theorem dX12_holds_299 : decode cX12_holds 299 = .ok (.if_icmp .ge 82, 3) := by decide +kernel
theorem dX12_holds_302 : decode cX12_holds 302 = .ok (.iload 8, 2) := by decide +kernel
theorem dX12_holds_304 : decode cX12_holds 304 = .ok (.iconst 4, 1) := by decide +kernel
theorem dX12_holds_305 : decode cX12_holds 305 = .ok (.ishr, 1) := by decide +kernel
theorem dX12_holds_306 : decode cX12_holds 306 = .ok (.bipush 25, 2) := by decide +kernel
theorem dX12_holds_308 : decode cX12_holds 308 = .ok (.invokestatic 143, 3) := by decide +kernel
theorem dX12_holds_311 : decode cX12_holds 311 = .ok (.istore 13, 2) := by decide +kernel
theorem dX12_holds_313 : decode cX12_holds 313 = .ok (.aload_n 0, 1) := by decide +kernel
theorem dX12_holds_314 : decode cX12_holds 314 = .ok (.aload_n 3, 1) := by decide +kernel
theorem dX12_holds_315 : decode cX12_holds 315 = .ok (.iload 13, 2) := by decide +kernel
theorem dX12_holds_317 : decode cX12_holds 317 = .ok (.invokevirtual 195, 3) := by decide +kernel
theorem dX12_holds_320 : decode cX12_holds 320 = .ok (.istore 14, 2) := by decide +kernel
theorem dX12_holds_322 : decode cX12_holds 322 = .ok (.iconst 1, 1) := by decide +kernel
theorem dX12_holds_323 : decode cX12_holds 323 = .ok (.istore 11, 2) := by decide +kernel
theorem dX12_holds_325 : decode cX12_holds 325 = .ok (.aload_n 2, 1) := by decide +kernel
theorem dX12_holds_326 : decode cX12_holds 326 = .ok (.iload 13, 2) := by decide +kernel
theorem dX12_holds_328 : decode cX12_holds 328 = .ok (.invokevirtual 192, 3) := by decide +kernel
theorem dX12_holds_331 : decode cX12_holds 331 = .ok (.iload 14, 2) := by decide +kernel
theorem dX12_holds_333 : decode cX12_holds 333 = .ok (.if_icmp .ne 43, 3) := by decide +kernel
theorem dX12_holds_336 : decode cX12_holds 336 = .ok (.aload_n 2, 1) := by decide +kernel
theorem dX12_holds_337 : decode cX12_holds 337 = .ok (.iconst 2, 1) := by decide +kernel
theorem dX12_holds_338 : decode cX12_holds 338 = .ok (.newarray .long, 2) := by decide +kernel
theorem dX12_holds_340 : decode cX12_holds 340 = .ok (.dup, 1) := by decide +kernel
theorem dX12_holds_341 : decode cX12_holds 341 = .ok (.iconst 0, 1) := by decide +kernel
theorem dX12_holds_342 : decode cX12_holds 342 = .ok (.aload_n 3, 1) := by decide +kernel
theorem dX12_holds_343 : decode cX12_holds 343 = .ok (.getfield 102, 3) := by decide +kernel
theorem dX12_holds_346 : decode cX12_holds 346 = .ok (.aload 10, 2) := by decide +kernel
theorem dX12_holds_348 : decode cX12_holds 348 = .ok (.getfield 102, 3) := by decide +kernel
theorem dX12_holds_351 : decode cX12_holds 351 = .ok (.isub, 1) := by decide +kernel
theorem dX12_holds_352 : decode cX12_holds 352 = .ok (.i2l, 1) := by decide +kernel
theorem dX12_holds_353 : decode cX12_holds 353 = .ok (.lastore, 1) := by decide +kernel
theorem dX12_holds_354 : decode cX12_holds 354 = .ok (.dup, 1) := by decide +kernel
theorem dX12_holds_355 : decode cX12_holds 355 = .ok (.iconst 1, 1) := by decide +kernel
theorem dX12_holds_356 : decode cX12_holds 356 = .ok (.aload_n 3, 1) := by decide +kernel
theorem dX12_holds_357 : decode cX12_holds 357 = .ok (.invokevirtual 198, 3) := by decide +kernel
theorem dX12_holds_360 : decode cX12_holds 360 = .ok (.aload 10, 2) := by decide +kernel
theorem dX12_holds_362 : decode cX12_holds 362 = .ok (.invokevirtual 198, 3) := by decide +kernel
theorem dX12_holds_365 : decode cX12_holds 365 = .ok (.iconst (-1), 1) := by decide +kernel
theorem dX12_holds_366 : decode cX12_holds 366 = .ok (.ixor, 1) := by decide +kernel
theorem dX12_holds_367 : decode cX12_holds 367 = .ok (.iand, 1) := by decide +kernel
theorem dX12_holds_368 : decode cX12_holds 368 = .ok (.i2l, 1) := by decide +kernel
theorem dX12_holds_369 : decode cX12_holds 369 = .ok (.lastore, 1) := by decide +kernel
theorem dX12_holds_370 : decode cX12_holds 370 = .ok (.invokestatic 51, 3) := by decide +kernel
theorem dX12_holds_373 : decode cX12_holds 373 = .ok (.ifCond .ne 5, 3) := by decide +kernel
theorem dX12_holds_376 : decode cX12_holds 376 = .ok (.iconst 0, 1) := by decide +kernel
theorem dX12_holds_377 : decode cX12_holds 377 = .ok (.ireturn, 1) := by decide +kernel
theorem dX12_holds_378 : decode cX12_holds 378 = .ok (.goto 591, 3) := by decide +kernel
theorem dX12_holds_381 : decode cX12_holds 381 = .ok (.iload 9, 2) := by decide +kernel
theorem dX12_holds_383 : decode cX12_holds 383 = .ok (.bipush 14, 2) := by decide +kernel
theorem dX12_holds_385 : decode cX12_holds 385 = .ok (.if_icmp .ge 519, 3) := by decide +kernel
theorem dX12_holds_388 : decode cX12_holds 388 = .ok (.ldc 161, 2) := by decide +kernel
theorem dX12_holds_390 : decode cX12_holds 390 = .ok (.astore 13, 2) := by decide +kernel
theorem dX12_holds_392 : decode cX12_holds 392 = .ok (.iconst 1, 1) := by decide +kernel
theorem dX12_holds_393 : decode cX12_holds 393 = .ok (.iload 8, 2) := by decide +kernel
theorem dX12_holds_395 : decode cX12_holds 395 = .ok (.iconst 4, 1) := by decide +kernel
theorem dX12_holds_396 : decode cX12_holds 396 = .ok (.ishr, 1) := by decide +kernel
theorem dX12_holds_397 : decode cX12_holds 397 = .ok (.iconst 1, 1) := by decide +kernel
theorem dX12_holds_398 : decode cX12_holds 398 = .ok (.iand, 1) := by decide +kernel
theorem dX12_holds_399 : decode cX12_holds 399 = .ok (.iadd, 1) := by decide +kernel
theorem dX12_holds_400 : decode cX12_holds 400 = .ok (.iload 8, 2) := by decide +kernel
theorem dX12_holds_402 : decode cX12_holds 402 = .ok (.iconst 5, 1) := by decide +kernel
theorem dX12_holds_403 : decode cX12_holds 403 = .ok (.ishr, 1) := by decide +kernel
theorem dX12_holds_404 : decode cX12_holds 404 = .ok (.iconst 1, 1) := by decide +kernel
theorem dX12_holds_405 : decode cX12_holds 405 = .ok (.iand, 1) := by decide +kernel
theorem dX12_holds_406 : decode cX12_holds 406 = .ok (.iadd, 1) := by decide +kernel
theorem dX12_holds_407 : decode cX12_holds 407 = .ok (.istore 14, 2) := by decide +kernel
theorem dX12_holds_409 : decode cX12_holds 409 = .ok (.iconst 0, 1) := by decide +kernel
theorem dX12_holds_410 : decode cX12_holds 410 = .ok (.istore 15, 2) := by decide +kernel
theorem dX12_holds_412 : decode cX12_holds 412 = .ok (.iconst 0, 1) := by decide +kernel
theorem dX12_holds_413 : decode cX12_holds 413 = .ok (.istore 16, 2) := by decide +kernel
theorem dX12_holds_415 : decode cX12_holds 415 = .ok (.iconst 0, 1) := by decide +kernel
theorem dX12_holds_416 : decode cX12_holds 416 = .ok (.istore 17, 2) := by decide +kernel
theorem dX12_holds_418 : decode cX12_holds 418 = .ok (.iload 17, 2) := by decide +kernel
theorem dX12_holds_420 : decode cX12_holds 420 = .ok (.iload 14, 2) := by decide +kernel
theorem dX12_holds_422 : decode cX12_holds 422 = .ok (.if_icmp .ge 410, 3) := by decide +kernel
theorem dX12_holds_425 : decode cX12_holds 425 = .ok (.iload 8, 2) := by decide +kernel
theorem dX12_holds_427 : decode cX12_holds 427 = .ok (.bipush 6, 2) := by decide +kernel
theorem dX12_holds_429 : decode cX12_holds 429 = .ok (.bipush 8, 2) := by decide +kernel
theorem dX12_holds_431 : decode cX12_holds 431 = .ok (.iload 17, 2) := by decide +kernel
theorem dX12_holds_433 : decode cX12_holds 433 = .ok (.imul, 1) := by decide +kernel
theorem dX12_holds_434 : decode cX12_holds 434 = .ok (.iadd, 1) := by decide +kernel
theorem dX12_holds_435 : decode cX12_holds 435 = .ok (.ishr, 1) := by decide +kernel
theorem dX12_holds_436 : decode cX12_holds 436 = .ok (.istore 18, 2) := by decide +kernel
theorem dX12_holds_438 : decode cX12_holds 438 = .ok (.iload 18, 2) := by decide +kernel
theorem dX12_holds_440 : decode cX12_holds 440 = .ok (.iconst 2, 1) := by decide +kernel
theorem dX12_holds_441 : decode cX12_holds 441 = .ok (.ishr, 1) := by decide +kernel
theorem dX12_holds_442 : decode cX12_holds 442 = .ok (.bipush 8, 2) := by decide +kernel
theorem dX12_holds_444 : decode cX12_holds 444 = .ok (.invokestatic 143, 3) := by decide +kernel
theorem dX12_holds_447 : decode cX12_holds 447 = .ok (.istore 19, 2) := by decide +kernel
theorem dX12_holds_449 : decode cX12_holds 449 = .ok (.iload 18, 2) := by decide +kernel
theorem dX12_holds_451 : decode cX12_holds 451 = .ok (.iconst 5, 1) := by decide +kernel
theorem dX12_holds_452 : decode cX12_holds 452 = .ok (.ishr, 1) := by decide +kernel
theorem dX12_holds_453 : decode cX12_holds 453 = .ok (.bipush 8, 2) := by decide +kernel
theorem dX12_holds_455 : decode cX12_holds 455 = .ok (.invokestatic 143, 3) := by decide +kernel
theorem dX12_holds_458 : decode cX12_holds 458 = .ok (.istore 20, 2) := by decide +kernel
theorem dX12_holds_460 : decode cX12_holds 460 = .ok (.iconst 0, 1) := by decide +kernel
theorem dX12_holds_461 : decode cX12_holds 461 = .ok (.istore 21, 2) := by decide +kernel
theorem dX12_holds_463 : decode cX12_holds 463 = .ok (.new 158, 3) := by decide +kernel
theorem dX12_holds_466 : decode cX12_holds 466 = .ok (.dup, 1) := by decide +kernel
theorem dX12_holds_467 : decode cX12_holds 467 = .ok (.invokespecial 160, 3) := by decide +kernel
theorem dX12_holds_470 : decode cX12_holds 470 = .ok (.aload 13, 2) := by decide +kernel
theorem dX12_holds_472 : decode cX12_holds 472 = .ok (.invokevirtual 163, 3) := by decide +kernel
theorem dX12_holds_475 : decode cX12_holds 475 = .ok (.iload 17, 2) := by decide +kernel
theorem dX12_holds_477 : decode cX12_holds 477 = .ok (.ifCond .ne 8, 3) := by decide +kernel
theorem dX12_holds_480 : decode cX12_holds 480 = .ok (.ldc 161, 2) := by decide +kernel
theorem dX12_holds_482 : decode cX12_holds 482 = .ok (.goto 5, 3) := by decide +kernel
theorem dX12_holds_485 : decode cX12_holds 485 = .ok (.ldc 240, 2) := by decide +kernel
theorem dX12_holds_487 : decode cX12_holds 487 = .ok (.invokevirtual 163, 3) := by decide +kernel
theorem dX12_holds_490 : decode cX12_holds 490 = .ok (.invokevirtual 170, 3) := by decide +kernel
theorem dX12_holds_493 : decode cX12_holds 493 = .ok (.astore 13, 2) := by decide +kernel
theorem dX12_holds_495 : decode cX12_holds 495 = .ok (.iload 18, 2) := by decide +kernel
theorem dX12_holds_497 : decode cX12_holds 497 = .ok (.iconst 5, 1) := by decide +kernel
theorem dX12_holds_498 : decode cX12_holds 498 = .ok (.invokestatic 143, 3) := by decide +kernel
theorem dX12_holds_501 : decode cX12_holds 501 = .ok (.tableswitch 261 0 3 #[31, 75, 119, 197], 31) := by decide +kernel
theorem dX12_holds_532 : decode cX12_holds 532 = .ok (.new 158, 3) := by decide +kernel
theorem dX12_holds_535 : decode cX12_holds 535 = .ok (.dup, 1) := by decide +kernel
theorem dX12_holds_536 : decode cX12_holds 536 = .ok (.invokespecial 160, 3) := by decide +kernel
theorem dX12_holds_539 : decode cX12_holds 539 = .ok (.aload 13, 2) := by decide +kernel
theorem dX12_holds_541 : decode cX12_holds 541 = .ok (.invokevirtual 163, 3) := by decide +kernel
theorem dX12_holds_544 : decode cX12_holds 544 = .ok (.ldc 242, 2) := by decide +kernel
theorem dX12_holds_546 : decode cX12_holds 546 = .ok (.invokevirtual 163, 3) := by decide +kernel
theorem dX12_holds_549 : decode cX12_holds 549 = .ok (.iload 19, 2) := by decide +kernel
theorem dX12_holds_551 : decode cX12_holds 551 = .ok (.invokevirtual 167, 3) := by decide +kernel
theorem dX12_holds_554 : decode cX12_holds 554 = .ok (.invokevirtual 170, 3) := by decide +kernel
theorem dX12_holds_557 : decode cX12_holds 557 = .ok (.astore 13, 2) := by decide +kernel
theorem dX12_holds_559 : decode cX12_holds 559 = .ok (.iload 16, 2) := by decide +kernel
theorem dX12_holds_561 : decode cX12_holds 561 = .ok (.ifCond .ne 240, 3) := by decide +kernel
theorem dX12_holds_564 : decode cX12_holds 564 = .ok (.aload_n 0, 1) := by decide +kernel
theorem dX12_holds_565 : decode cX12_holds 565 = .ok (.aload_n 3, 1) := by decide +kernel
theorem dX12_holds_566 : decode cX12_holds 566 = .ok (.iload 19, 2) := by decide +kernel
theorem dX12_holds_568 : decode cX12_holds 568 = .ok (.invokevirtual 189, 3) := by decide +kernel
theorem dX12_holds_571 : decode cX12_holds 571 = .ok (.istore 21, 2) := by decide +kernel
theorem dX12_holds_573 : decode cX12_holds 573 = .ok (.goto 228, 3) := by decide +kernel
theorem dX12_holds_576 : decode cX12_holds 576 = .ok (.new 158, 3) := by decide +kernel
theorem dX12_holds_579 : decode cX12_holds 579 = .ok (.dup, 1) := by decide +kernel
theorem dX12_holds_580 : decode cX12_holds 580 = .ok (.invokespecial 160, 3) := by decide +kernel
theorem dX12_holds_583 : decode cX12_holds 583 = .ok (.aload 13, 2) := by decide +kernel
theorem dX12_holds_585 : decode cX12_holds 585 = .ok (.invokevirtual 163, 3) := by decide +kernel
theorem dX12_holds_588 : decode cX12_holds 588 = .ok (.ldc 244, 2) := by decide +kernel
theorem dX12_holds_590 : decode cX12_holds 590 = .ok (.invokevirtual 163, 3) := by decide +kernel
theorem dX12_holds_593 : decode cX12_holds 593 = .ok (.iload 19, 2) := by decide +kernel
theorem dX12_holds_595 : decode cX12_holds 595 = .ok (.invokevirtual 167, 3) := by decide +kernel
theorem dX12_holds_598 : decode cX12_holds 598 = .ok (.invokevirtual 170, 3) := by decide +kernel
theorem dX12_holds_601 : decode cX12_holds 601 = .ok (.astore 13, 2) := by decide +kernel
theorem dX12_holds_603 : decode cX12_holds 603 = .ok (.iload 16, 2) := by decide +kernel
theorem dX12_holds_605 : decode cX12_holds 605 = .ok (.ifCond .ne 196, 3) := by decide +kernel
theorem dX12_holds_608 : decode cX12_holds 608 = .ok (.aload_n 0, 1) := by decide +kernel
theorem dX12_holds_609 : decode cX12_holds 609 = .ok (.aload_n 3, 1) := by decide +kernel
theorem dX12_holds_610 : decode cX12_holds 610 = .ok (.iload 19, 2) := by decide +kernel
theorem dX12_holds_612 : decode cX12_holds 612 = .ok (.invokevirtual 232, 3) := by decide +kernel
theorem dX12_holds_615 : decode cX12_holds 615 = .ok (.istore 21, 2) := by decide +kernel
theorem dX12_holds_617 : decode cX12_holds 617 = .ok (.goto 184, 3) := by decide +kernel
theorem dX12_holds_620 : decode cX12_holds 620 = .ok (.new 158, 3) := by decide +kernel
theorem dX12_holds_623 : decode cX12_holds 623 = .ok (.dup, 1) := by decide +kernel
theorem dX12_holds_624 : decode cX12_holds 624 = .ok (.invokespecial 160, 3) := by decide +kernel
theorem dX12_holds_627 : decode cX12_holds 627 = .ok (.aload 13, 2) := by decide +kernel
theorem dX12_holds_629 : decode cX12_holds 629 = .ok (.invokevirtual 163, 3) := by decide +kernel
theorem dX12_holds_632 : decode cX12_holds 632 = .ok (.ldc 246, 2) := by decide +kernel
theorem dX12_holds_634 : decode cX12_holds 634 = .ok (.invokevirtual 163, 3) := by decide +kernel
theorem dX12_holds_637 : decode cX12_holds 637 = .ok (.iload 19, 2) := by decide +kernel
theorem dX12_holds_639 : decode cX12_holds 639 = .ok (.invokevirtual 167, 3) := by decide +kernel
theorem dX12_holds_642 : decode cX12_holds 642 = .ok (.iload 20, 2) := by decide +kernel
theorem dX12_holds_644 : decode cX12_holds 644 = .ok (.invokevirtual 167, 3) := by decide +kernel
theorem dX12_holds_647 : decode cX12_holds 647 = .ok (.invokevirtual 170, 3) := by decide +kernel
theorem dX12_holds_650 : decode cX12_holds 650 = .ok (.astore 13, 2) := by decide +kernel
theorem dX12_holds_652 : decode cX12_holds 652 = .ok (.iload 16, 2) := by decide +kernel
theorem dX12_holds_654 : decode cX12_holds 654 = .ok (.ifCond .eq 6, 3) := by decide +kernel
theorem dX12_holds_657 : decode cX12_holds 657 = .ok (.goto 144, 3) := by decide +kernel
theorem dX12_holds_660 : decode cX12_holds 660 = .ok (.aload_n 3, 1) := by decide +kernel
theorem dX12_holds_661 : decode cX12_holds 661 = .ok (.invokevirtual 228, 3) := by decide +kernel
theorem dX12_holds_664 : decode cX12_holds 664 = .ok (.astore 22, 2) := by decide +kernel
theorem dX12_holds_666 : decode cX12_holds 666 = .ok (.aload_n 0, 1) := by decide +kernel
theorem dX12_holds_667 : decode cX12_holds 667 = .ok (.aload 22, 2) := by decide +kernel
theorem dX12_holds_669 : decode cX12_holds 669 = .ok (.iload 19, 2) := by decide +kernel
theorem dX12_holds_671 : decode cX12_holds 671 = .ok (.invokevirtual 232, 3) := by decide +kernel
theorem dX12_holds_674 : decode cX12_holds 674 = .ok (.aload_n 0, 1) := by decide +kernel
theorem dX12_holds_675 : decode cX12_holds 675 = .ok (.aload 22, 2) := by decide +kernel
theorem dX12_holds_677 : decode cX12_holds 677 = .ok (.iload 20, 2) := by decide +kernel
theorem dX12_holds_679 : decode cX12_holds 679 = .ok (.invokevirtual 189, 3) := by decide +kernel
theorem dX12_holds_682 : decode cX12_holds 682 = .ok (.invokestatic 108, 3) := by decide +kernel
theorem dX12_holds_685 : decode cX12_holds 685 = .ok (.istore 21, 2) := by decide +kernel
theorem dX12_holds_687 : decode cX12_holds 687 = .ok (.iload 21, 2) := by decide +kernel
theorem dX12_holds_689 : decode cX12_holds 689 = .ok (.ifCond .lt 112, 3) := by decide +kernel
theorem dX12_holds_692 : decode cX12_holds 692 = .ok (.aload 22, 2) := by decide +kernel
theorem dX12_holds_694 : decode cX12_holds 694 = .ok (.astore_n 3, 1) := by decide +kernel
theorem dX12_holds_695 : decode cX12_holds 695 = .ok (.goto 106, 3) := by decide +kernel
theorem dX12_holds_698 : decode cX12_holds 698 = .ok (.new 158, 3) := by decide +kernel
theorem dX12_holds_701 : decode cX12_holds 701 = .ok (.dup, 1) := by decide +kernel
theorem dX12_holds_702 : decode cX12_holds 702 = .ok (.invokespecial 160, 3) := by decide +kernel
theorem dX12_holds_705 : decode cX12_holds 705 = .ok (.aload 13, 2) := by decide +kernel
theorem dX12_holds_707 : decode cX12_holds 707 = .ok (.invokevirtual 163, 3) := by decide +kernel
theorem dX12_holds_710 : decode cX12_holds 710 = .ok (.ldc 248, 2) := by decide +kernel
theorem dX12_holds_712 : decode cX12_holds 712 = .ok (.invokevirtual 163, 3) := by decide +kernel
theorem dX12_holds_715 : decode cX12_holds 715 = .ok (.iload 20, 2) := by decide +kernel
theorem dX12_holds_717 : decode cX12_holds 717 = .ok (.invokevirtual 167, 3) := by decide +kernel
theorem dX12_holds_720 : decode cX12_holds 720 = .ok (.invokevirtual 170, 3) := by decide +kernel
theorem dX12_holds_723 : decode cX12_holds 723 = .ok (.astore 13, 2) := by decide +kernel
theorem dX12_holds_725 : decode cX12_holds 725 = .ok (.iload 16, 2) := by decide +kernel
theorem dX12_holds_727 : decode cX12_holds 727 = .ok (.ifCond .ne 24, 3) := by decide +kernel
theorem dX12_holds_730 : decode cX12_holds 730 = .ok (.iload 20, 2) := by decide +kernel
theorem dX12_holds_732 : decode cX12_holds 732 = .ok (.ifCond .le 19, 3) := by decide +kernel
theorem dX12_holds_735 : decode cX12_holds 735 = .ok (.aload_n 3, 1) := by decide +kernel
theorem dX12_holds_736 : decode cX12_holds 736 = .ok (.bipush 99, 2) := by decide +kernel
theorem dX12_holds_738 : decode cX12_holds 738 = .ok (.aload_n 3, 1) := by decide +kernel
theorem dX12_holds_739 : decode cX12_holds 739 = .ok (.getfield 70, 3) := by decide +kernel
theorem dX12_holds_742 : decode cX12_holds 742 = .ok (.iload 20, 2) := by decide +kernel
theorem dX12_holds_744 : decode cX12_holds 744 = .ok (.iadd, 1) := by decide +kernel
theorem dX12_holds_745 : decode cX12_holds 745 = .ok (.invokestatic 108, 3) := by decide +kernel
theorem dX12_holds_748 : decode cX12_holds 748 = .ok (.putfield 70, 3) := by decide +kernel
theorem dX12_holds_751 : decode cX12_holds 751 = .ok (.iload 20, 2) := by decide +kernel
theorem dX12_holds_753 : decode cX12_holds 753 = .ok (.ifCond .ne 48, 3) := by decide +kernel
theorem dX12_holds_756 : decode cX12_holds 756 = .ok (.iconst (-1), 1) := by decide +kernel
theorem dX12_holds_757 : decode cX12_holds 757 = .ok (.istore 21, 2) := by decide +kernel
theorem dX12_holds_759 : decode cX12_holds 759 = .ok (.goto 42, 3) := by decide +kernel
theorem dX12_holds_762 : decode cX12_holds 762 = .ok (.new 158, 3) := by decide +kernel
theorem dX12_holds_765 : decode cX12_holds 765 = .ok (.dup, 1) := by decide +kernel
theorem dX12_holds_766 : decode cX12_holds 766 = .ok (.invokespecial 160, 3) := by decide +kernel
theorem dX12_holds_769 : decode cX12_holds 769 = .ok (.aload 13, 2) := by decide +kernel
theorem dX12_holds_771 : decode cX12_holds 771 = .ok (.invokevirtual 163, 3) := by decide +kernel
theorem dX12_holds_774 : decode cX12_holds 774 = .ok (.iconst 3, 1) := by decide +kernel
theorem dX12_holds_775 : decode cX12_holds 775 = .ok (.iload 20, 2) := by decide +kernel
theorem dX12_holds_777 : decode cX12_holds 777 = .ok (.imul, 1) := by decide +kernel
theorem dX12_holds_778 : decode cX12_holds 778 = .ok (.invokevirtual 167, 3) := by decide +kernel
theorem dX12_holds_781 : decode cX12_holds 781 = .ok (.invokevirtual 170, 3) := by decide +kernel
theorem dX12_holds_784 : decode cX12_holds 784 = .ok (.astore 13, 2) := by decide +kernel
theorem dX12_holds_786 : decode cX12_holds 786 = .ok (.iload 16, 2) := by decide +kernel
theorem dX12_holds_788 : decode cX12_holds 788 = .ok (.ifCond .ne 13, 3) := by decide +kernel
theorem dX12_holds_791 : decode cX12_holds 791 = .ok (.aload_n 0, 1) := by decide +kernel
theorem dX12_holds_792 : decode cX12_holds 792 = .ok (.aload_n 3, 1) := by decide +kernel
theorem dX12_holds_793 : decode cX12_holds 793 = .ok (.iconst 3, 1) := by decide +kernel
theorem dX12_holds_794 : decode cX12_holds 794 = .ok (.iload 20, 2) := by decide +kernel
theorem dX12_holds_796 : decode cX12_holds 796 = .ok (.imul, 1) := by decide +kernel
theorem dX12_holds_797 : decode cX12_holds 797 = .ok (.invokevirtual 195, 3) := by decide +kernel
theorem dX12_holds_800 : decode cX12_holds 800 = .ok (.pop, 1) := by decide +kernel
theorem dX12_holds_801 : decode cX12_holds 801 = .ok (.iload 16, 2) := by decide +kernel
theorem dX12_holds_803 : decode cX12_holds 803 = .ok (.ifCond .ne 8, 3) := by decide +kernel
theorem dX12_holds_806 : decode cX12_holds 806 = .ok (.iload 21, 2) := by decide +kernel
theorem dX12_holds_808 : decode cX12_holds 808 = .ok (.ifCond .ge 7, 3) := by decide +kernel
theorem dX12_holds_811 : decode cX12_holds 811 = .ok (.iconst 1, 1) := by decide +kernel
theorem dX12_holds_812 : decode cX12_holds 812 = .ok (.goto 4, 3) := by decide +kernel
theorem dX12_holds_815 : decode cX12_holds 815 = .ok (.iconst 0, 1) := by decide +kernel
theorem dX12_holds_816 : decode cX12_holds 816 = .ok (.istore 16, 2) := by decide +kernel
theorem dX12_holds_818 : decode cX12_holds 818 = .ok (.iload 16, 2) := by decide +kernel
theorem dX12_holds_820 : decode cX12_holds 820 = .ok (.ifCond .ne 6, 3) := by decide +kernel
theorem dX12_holds_823 : decode cX12_holds 823 = .ok (.iinc 15 1, 3) := by decide +kernel
theorem dX12_holds_826 : decode cX12_holds 826 = .ok (.iinc 17 1, 3) := by decide +kernel
theorem dX12_holds_829 : decode cX12_holds 829 = .ok (.goto (-411), 3) := by decide +kernel
theorem dX12_holds_832 : decode cX12_holds 832 = .ok (.iload 15, 2) := by decide +kernel
theorem dX12_holds_834 : decode cX12_holds 834 = .ok (.ifCond .le 7, 3) := by decide +kernel
theorem dX12_holds_837 : decode cX12_holds 837 = .ok (.iconst 1, 1) := by decide +kernel
theorem dX12_holds_838 : decode cX12_holds 838 = .ok (.goto 4, 3) := by decide +kernel
theorem dX12_holds_841 : decode cX12_holds 841 = .ok (.iconst 0, 1) := by decide +kernel
theorem dX12_holds_842 : decode cX12_holds 842 = .ok (.istore 11, 2) := by decide +kernel
theorem dX12_holds_844 : decode cX12_holds 844 = .ok (.aload_n 2, 1) := by decide +kernel
theorem dX12_holds_845 : decode cX12_holds 845 = .ok (.aload 13, 2) := by decide +kernel
theorem dX12_holds_847 : decode cX12_holds 847 = .ok (.invokestatic 150, 3) := by decide +kernel
theorem dX12_holds_850 : decode cX12_holds 850 = .ok (.ifCond .eq 49, 3) := by decide +kernel
theorem dX12_holds_853 : decode cX12_holds 853 = .ok (.aload_n 2, 1) := by decide +kernel
theorem dX12_holds_854 : decode cX12_holds 854 = .ok (.invokevirtual 250, 3) := by decide +kernel
theorem dX12_holds_857 : decode cX12_holds 857 = .ok (.iload 15, 2) := by decide +kernel
theorem dX12_holds_859 : decode cX12_holds 859 = .ok (.if_icmp .ne 40, 3) := by decide +kernel
theorem dX12_holds_862 : decode cX12_holds 862 = .ok (.aload_n 2, 1) := by decide +kernel
theorem dX12_holds_863 : decode cX12_holds 863 = .ok (.iconst 2, 1) := by decide +kernel
theorem dX12_holds_864 : decode cX12_holds 864 = .ok (.newarray .long, 2) := by decide +kernel
theorem dX12_holds_866 : decode cX12_holds 866 = .ok (.dup, 1) := by decide +kernel
theorem dX12_holds_867 : decode cX12_holds 867 = .ok (.iconst 0, 1) := by decide +kernel
theorem dX12_holds_868 : decode cX12_holds 868 = .ok (.iload 16, 2) := by decide +kernel
theorem dX12_holds_870 : decode cX12_holds 870 = .ok (.ifCond .eq 7, 3) := by decide +kernel
theorem dX12_holds_873 : decode cX12_holds 873 = .ok (.lconst 1, 1) := by decide +kernel
theorem dX12_holds_874 : decode cX12_holds 874 = .ok (.goto 4, 3) := by decide +kernel
theorem dX12_holds_877 : decode cX12_holds 877 = .ok (.lconst 0, 1) := by decide +kernel
theorem dX12_holds_878 : decode cX12_holds 878 = .ok (.lastore, 1) := by decide +kernel
theorem dX12_holds_879 : decode cX12_holds 879 = .ok (.dup, 1) := by decide +kernel
theorem dX12_holds_880 : decode cX12_holds 880 = .ok (.iconst 1, 1) := by decide +kernel
theorem dX12_holds_881 : decode cX12_holds 881 = .ok (.aload_n 3, 1) := by decide +kernel
theorem dX12_holds_882 : decode cX12_holds 882 = .ok (.getfield 102, 3) := by decide +kernel
theorem dX12_holds_885 : decode cX12_holds 885 = .ok (.aload 10, 2) := by decide +kernel
theorem dX12_holds_887 : decode cX12_holds 887 = .ok (.getfield 102, 3) := by decide +kernel
theorem dX12_holds_890 : decode cX12_holds 890 = .ok (.isub, 1) := by decide +kernel
theorem dX12_holds_891 : decode cX12_holds 891 = .ok (.i2l, 1) := by decide +kernel
theorem dX12_holds_892 : decode cX12_holds 892 = .ok (.lastore, 1) := by decide +kernel
theorem dX12_holds_893 : decode cX12_holds 893 = .ok (.invokestatic 51, 3) := by decide +kernel
theorem dX12_holds_896 : decode cX12_holds 896 = .ok (.ifCond .ne 5, 3) := by decide +kernel
theorem dX12_holds_899 : decode cX12_holds 899 = .ok (.iconst 0, 1) := by decide +kernel
theorem dX12_holds_900 : decode cX12_holds 900 = .ok (.ireturn, 1) := by decide +kernel
theorem dX12_holds_901 : decode cX12_holds 901 = .ok (.goto 68, 3) := by decide +kernel
theorem dX12_holds_904 : decode cX12_holds 904 = .ok (.aload 4, 2) := by decide +kernel
theorem dX12_holds_906 : decode cX12_holds 906 = .ok (.invokevirtual 253, 3) := by decide +kernel
theorem dX12_holds_909 : decode cX12_holds 909 = .ok (.ifCond .eq 7, 3) := by decide +kernel
theorem dX12_holds_912 : decode cX12_holds 912 = .ok (.iconst (-1), 1) := by decide +kernel
theorem dX12_holds_913 : decode cX12_holds 913 = .ok (.goto 10, 3) := by decide +kernel
theorem dX12_holds_916 : decode cX12_holds 916 = .ok (.aload 4, 2) := by decide +kernel
theorem dX12_holds_918 : decode cX12_holds 918 = .ok (.invokevirtual 257, 3) := by decide +kernel
theorem dX12_holds_921 : decode cX12_holds 921 = .ok (.iconst 1, 1) := by decide +kernel
theorem dX12_holds_922 : decode cX12_holds 922 = .ok (.isub, 1) := by decide +kernel
theorem dX12_holds_923 : decode cX12_holds 923 = .ok (.istore 13, 2) := by decide +kernel
theorem dX12_holds_925 : decode cX12_holds 925 = .ok (.aload_n 2, 1) := by decide +kernel
theorem dX12_holds_926 : decode cX12_holds 926 = .ok (.invokevirtual 260, 3) := by decide +kernel
theorem dX12_holds_929 : decode cX12_holds 929 = .ok (.iload 13, 2) := by decide +kernel
theorem dX12_holds_931 : decode cX12_holds 931 = .ok (.if_icmp .eq 5, 3) := by decide +kernel
theorem dX12_holds_934 : decode cX12_holds 934 = .ok (.iconst 0, 1) := by decide +kernel
theorem dX12_holds_935 : decode cX12_holds 935 = .ok (.ireturn, 1) := by decide +kernel
theorem dX12_holds_936 : decode cX12_holds 936 = .ok (.iload 13, 2) := by decide +kernel
theorem dX12_holds_938 : decode cX12_holds 938 = .ok (.ifCond .lt 15, 3) := by decide +kernel
theorem dX12_holds_941 : decode cX12_holds 941 = .ok (.aload 4, 2) := by decide +kernel
theorem dX12_holds_943 : decode cX12_holds 943 = .ok (.iload 13, 2) := by decide +kernel
theorem dX12_holds_945 : decode cX12_holds 945 = .ok (.invokevirtual 263, 3) := by decide +kernel
theorem dX12_holds_948 : decode cX12_holds 948 = .ok (.ifnonnull 5, 3) := by decide +kernel
theorem dX12_holds_951 : decode cX12_holds 951 = .ok (.iconst 1, 1) := by decide +kernel
theorem dX12_holds_952 : decode cX12_holds 952 = .ok (.ireturn, 1) := by decide +kernel
theorem dX12_holds_953 : decode cX12_holds 953 = .ok (.iload 13, 2) := by decide +kernel
theorem dX12_holds_955 : decode cX12_holds 955 = .ok (.ifCond .lt 14, 3) := by decide +kernel
theorem dX12_holds_958 : decode cX12_holds 958 = .ok (.aload 4, 2) := by decide +kernel
theorem dX12_holds_960 : decode cX12_holds 960 = .ok (.iload 13, 2) := by decide +kernel
theorem dX12_holds_962 : decode cX12_holds 962 = .ok (.invokevirtual 267, 3) := by decide +kernel
theorem dX12_holds_965 : decode cX12_holds 965 = .ok (.checkcast 56, 3) := by decide +kernel
theorem dX12_holds_968 : decode cX12_holds 968 = .ok (.astore_n 3, 1) := by decide +kernel
theorem dX12_holds_969 : decode cX12_holds 969 = .ok (.iload 11, 2) := by decide +kernel
theorem dX12_holds_971 : decode cX12_holds 971 = .ok (.ifCond .eq 28, 3) := by decide +kernel
theorem dX12_holds_974 : decode cX12_holds 974 = .ok (.aload 4, 2) := by decide +kernel
theorem dX12_holds_976 : decode cX12_holds 976 = .ok (.invokevirtual 257, 3) := by decide +kernel
theorem dX12_holds_979 : decode cX12_holds 979 = .ok (.bipush 15, 2) := by decide +kernel
theorem dX12_holds_981 : decode cX12_holds 981 = .ok (.if_icmp .ne 10, 3) := by decide +kernel
theorem dX12_holds_984 : decode cX12_holds 984 = .ok (.aload 4, 2) := by decide +kernel
theorem dX12_holds_986 : decode cX12_holds 986 = .ok (.iconst 0, 1) := by decide +kernel
theorem dX12_holds_987 : decode cX12_holds 987 = .ok (.invokevirtual 267, 3) := by decide +kernel
theorem dX12_holds_990 : decode cX12_holds 990 = .ok (.pop, 1) := by decide +kernel
theorem dX12_holds_991 : decode cX12_holds 991 = .ok (.aload 4, 2) := by decide +kernel
theorem dX12_holds_993 : decode cX12_holds 993 = .ok (.aload 10, 2) := by decide +kernel
theorem dX12_holds_995 : decode cX12_holds 995 = .ok (.invokevirtual 224, 3) := by decide +kernel
theorem dX12_holds_998 : decode cX12_holds 998 = .ok (.pop, 1) := by decide +kernel
theorem dX12_holds_999 : decode cX12_holds 999 = .ok (.aload_n 0, 1) := by decide +kernel
theorem dX12_holds_1000 : decode cX12_holds 1000 = .ok (.aload_n 2, 1) := by decide +kernel
theorem dX12_holds_1001 : decode cX12_holds 1001 = .ok (.aload_n 3, 1) := by decide +kernel
theorem dX12_holds_1002 : decode cX12_holds 1002 = .ok (.invokevirtual 201, 3) := by decide +kernel
theorem dX12_holds_1005 : decode cX12_holds 1005 = .ok (.ifCond .eq 17, 3) := by decide +kernel
theorem dX12_holds_1008 : decode cX12_holds 1008 = .ok (.aload_n 2, 1) := by decide +kernel
theorem dX12_holds_1009 : decode cX12_holds 1009 = .ok (.bipush 14, 2) := by decide +kernel
theorem dX12_holds_1011 : decode cX12_holds 1011 = .ok (.invokevirtual 43, 3) := by decide +kernel
theorem dX12_holds_1014 : decode cX12_holds 1014 = .ok (.aload 4, 2) := by decide +kernel
theorem dX12_holds_1016 : decode cX12_holds 1016 = .ok (.invokevirtual 257, 3) := by decide +kernel
theorem dX12_holds_1019 : decode cX12_holds 1019 = .ok (.if_icmp .eq 5, 3) := by decide +kernel
theorem dX12_holds_1022 : decode cX12_holds 1022 = .ok (.iconst 0, 1) := by decide +kernel
theorem dX12_holds_1023 : decode cX12_holds 1023 = .ok (.ireturn, 1) := by decide +kernel
theorem dX12_holds_1024 : decode cX12_holds 1024 = .ok (.iinc 7 1, 3) := by decide +kernel
theorem dX12_holds_1027 : decode cX12_holds 1027 = .ok (.goto (-951), 3) := by decide +kernel
theorem dX12_holds_1030 : decode cX12_holds 1030 = .ok (.aload_n 2, 1) := by decide +kernel
theorem dX12_holds_1031 : decode cX12_holds 1031 = .ok (.iload 6, 2) := by decide +kernel
theorem dX12_holds_1033 : decode cX12_holds 1033 = .ok (.iconst 0, 1) := by decide +kernel
theorem dX12_holds_1034 : decode cX12_holds 1034 = .ok (.invokestatic 205, 3) := by decide +kernel
theorem dX12_holds_1037 : decode cX12_holds 1037 = .ok (.ldc 21, 2) := by decide +kernel
theorem dX12_holds_1039 : decode cX12_holds 1039 = .ok (.if_icmp .ne 41, 3) := by decide +kernel
theorem dX12_holds_1042 : decode cX12_holds 1042 = .ok (.aload_n 2, 1) := by decide +kernel
theorem dX12_holds_1043 : decode cX12_holds 1043 = .ok (.aload_n 0, 1) := by decide +kernel
theorem dX12_holds_1044 : decode cX12_holds 1044 = .ok (.getfield 124, 3) := by decide +kernel
theorem dX12_holds_1047 : decode cX12_holds 1047 = .ok (.arraylength, 1) := by decide +kernel
theorem dX12_holds_1048 : decode cX12_holds 1048 = .ok (.iconst 0, 1) := by decide +kernel
theorem dX12_holds_1049 : decode cX12_holds 1049 = .ok (.invokestatic 212, 3) := by decide +kernel
theorem dX12_holds_1052 : decode cX12_holds 1052 = .ok (.ldc 21, 2) := by decide +kernel
theorem dX12_holds_1054 : decode cX12_holds 1054 = .ok (.if_icmp .ne 26, 3) := by decide +kernel
theorem dX12_holds_1057 : decode cX12_holds 1057 = .ok (.aload_n 2, 1) := by decide +kernel
theorem dX12_holds_1058 : decode cX12_holds 1058 = .ok (.bipush 121, 2) := by decide +kernel
theorem dX12_holds_1060 : decode cX12_holds 1060 = .ok (.invokevirtual 192, 3) := by decide +kernel
theorem dX12_holds_1063 : decode cX12_holds 1063 = .ok (.iconst (-1), 1) := by decide +kernel
theorem dX12_holds_1064 : decode cX12_holds 1064 = .ok (.if_icmp .ne 16, 3) := by decide +kernel
theorem dX12_holds_1067 : decode cX12_holds 1067 = .ok (.aload_n 2, 1) := by decide +kernel
theorem dX12_holds_1068 : decode cX12_holds 1068 = .ok (.iconst (-1), 1) := by decide +kernel
theorem dX12_holds_1069 : decode cX12_holds 1069 = .ok (.invokevirtual 192, 3) := by decide +kernel
theorem dX12_holds_1072 : decode cX12_holds 1072 = .ok (.iconst (-1), 1) := by decide +kernel
theorem dX12_holds_1073 : decode cX12_holds 1073 = .ok (.if_icmp .ne 7, 3) := by decide +kernel
theorem dX12_holds_1076 : decode cX12_holds 1076 = .ok (.iconst 1, 1) := by decide +kernel
theorem dX12_holds_1077 : decode cX12_holds 1077 = .ok (.goto 4, 3) := by decide +kernel
theorem dX12_holds_1080 : decode cX12_holds 1080 = .ok (.iconst 0, 1) := by decide +kernel
theorem dX12_holds_1081 : decode cX12_holds 1081 = .ok (.ireturn, 1) := by decide +kernel
theorem dJ5_init_d00df_0 : decode cJ5_init_d00df 0 = .ok (.aload_n 0, 1) := by decide +kernel
theorem dJ5_init_d00df_1 : decode cJ5_init_d00df 1 = .ok (.invokespecial 3, 3) := by decide +kernel
theorem dJ5_init_d00df_4 : decode cJ5_init_d00df 4 = .ok (.getstatic 18, 3) := by decide +kernel
theorem dJ5_init_d00df_7 : decode cJ5_init_d00df 7 = .ok (.ifCond .eq 18, 3) := by decide +kernel
theorem dJ5_init_d00df_10 : decode cJ5_init_d00df 10 = .ok (.aload_n 0, 1) := by decide +kernel
theorem dJ5_init_d00df_11 : decode cJ5_init_d00df 11 = .ok (.iload_n 1, 1) := by decide +kernel
theorem dJ5_init_d00df_12 : decode cJ5_init_d00df 12 = .ok (.newarray .byte, 2) := by decide +kernel
theorem dJ5_init_d00df_14 : decode cJ5_init_d00df 14 = .ok (.putfield 15, 3) := by decide +kernel
theorem dJ5_init_d00df_17 : decode cJ5_init_d00df 17 = .ok (.aload_n 0, 1) := by decide +kernel
theorem dJ5_init_d00df_18 : decode cJ5_init_d00df 18 = .ok (.iconst 0, 1) := by decide +kernel
theorem dJ5_init_d00df_19 : decode cJ5_init_d00df 19 = .ok (.putfield 22, 3) := by decide +kernel
theorem dJ5_init_d00df_22 : decode cJ5_init_d00df 22 = .ok (.goto 16, 3) := by decide +kernel
theorem dJ5_init_d00df_25 : decode cJ5_init_d00df 25 = .ok (.aload_n 0, 1) := by decide +kernel
theorem dJ5_init_d00df_26 : decode cJ5_init_d00df 26 = .ok (.iload_n 1, 1) := by decide +kernel
theorem dJ5_init_d00df_27 : decode cJ5_init_d00df 27 = .ok (.invokestatic 26, 3) := by decide +kernel
theorem dJ5_init_d00df_30 : decode cJ5_init_d00df 30 = .ok (.putfield 15, 3) := by decide +kernel
theorem dJ5_init_d00df_33 : decode cJ5_init_d00df 33 = .ok (.aload_n 0, 1) := by decide +kernel
theorem dJ5_init_d00df_34 : decode cJ5_init_d00df 34 = .ok (.iconst 1, 1) := by decide +kernel
theorem dJ5_init_d00df_35 : decode cJ5_init_d00df 35 = .ok (.putfield 22, 3) := by decide +kernel
theorem dJ5_init_d00df_38 : decode cJ5_init_d00df 38 = .ok (.return_, 1) := by decide +kernel
theorem dJ5_length_8abf5_0 : decode cJ5_length_8abf5 0 = .ok (.aload_n 0, 1) := by decide +kernel
theorem dJ5_length_8abf5_1 : decode cJ5_length_8abf5 1 = .ok (.getfield 79, 3) := by decide +kernel
theorem dJ5_length_8abf5_4 : decode cJ5_length_8abf5 4 = .ok (.ireturn, 1) := by decide +kernel
theorem dJ5_ensureCapacityInternal_d00df_0 : decode cJ5_ensureCapacityInternal_d00df 0 = .ok (.aload_n 0, 1) := by decide +kernel
theorem dJ5_ensureCapacityInternal_d00df_1 : decode cJ5_ensureCapacityInternal_d00df 1 = .ok (.getfield 15, 3) := by decide +kernel
theorem dJ5_ensureCapacityInternal_d00df_4 : decode cJ5_ensureCapacityInternal_d00df 4 = .ok (.arraylength, 1) := by decide +kernel
theorem dJ5_ensureCapacityInternal_d00df_5 : decode cJ5_ensureCapacityInternal_d00df 5 = .ok (.aload_n 0, 1) := by decide +kernel
theorem dJ5_ensureCapacityInternal_d00df_6 : decode cJ5_ensureCapacityInternal_d00df 6 = .ok (.getfield 22, 3) := by decide +kernel
theorem dJ5_ensureCapacityInternal_d00df_9 : decode cJ5_ensureCapacityInternal_d00df 9 = .ok (.ishr, 1) := by decide +kernel
theorem dJ5_ensureCapacityInternal_d00df_10 : decode cJ5_ensureCapacityInternal_d00df 10 = .ok (.istore_n 2, 1) := by decide +kernel
theorem dJ5_ensureCapacityInternal_d00df_11 : decode cJ5_ensureCapacityInternal_d00df 11 = .ok (.iload_n 1, 1) := by decide +kernel
theorem dJ5_ensureCapacityInternal_d00df_12 : decode cJ5_ensureCapacityInternal_d00df 12 = .ok (.iload_n 2, 1) := by decide +kernel
theorem dJ5_ensureCapacityInternal_d00df_13 : decode cJ5_ensureCapacityInternal_d00df 13 = .ok (.isub, 1) := by decide +kernel
theorem dJ5_ensureCapacityInternal_d00df_14 : decode cJ5_ensureCapacityInternal_d00df 14 = .ok (.ifCond .le 24, 3) := by decide +kernel
theorem dJ5_ensureCapacityInternal_d00df_17 : decode cJ5_ensureCapacityInternal_d00df 17 = .ok (.aload_n 0, 1) := by decide +kernel
theorem dJ5_ensureCapacityInternal_d00df_18 : decode cJ5_ensureCapacityInternal_d00df 18 = .ok (.aload_n 0, 1) := by decide +kernel
theorem dJ5_ensureCapacityInternal_d00df_19 : decode cJ5_ensureCapacityInternal_d00df 19 = .ok (.getfield 15, 3) := by decide +kernel
theorem dJ5_ensureCapacityInternal_d00df_22 : decode cJ5_ensureCapacityInternal_d00df 22 = .ok (.aload_n 0, 1) := by decide +kernel
theorem dJ5_ensureCapacityInternal_d00df_23 : decode cJ5_ensureCapacityInternal_d00df 23 = .ok (.iload_n 1, 1) := by decide +kernel
theorem dJ5_ensureCapacityInternal_d00df_24 : decode cJ5_ensureCapacityInternal_d00df 24 = .ok (.invokevirtual 104, 3) := by decide +kernel
theorem dJ5_ensureCapacityInternal_d00df_27 : decode cJ5_ensureCapacityInternal_d00df 27 = .ok (.aload_n 0, 1) := by decide +kernel
theorem dJ5_ensureCapacityInternal_d00df_28 : decode cJ5_ensureCapacityInternal_d00df 28 = .ok (.getfield 22, 3) := by decide +kernel
theorem dJ5_ensureCapacityInternal_d00df_31 : decode cJ5_ensureCapacityInternal_d00df 31 = .ok (.ishl, 1) := by decide +kernel
theorem dJ5_ensureCapacityInternal_d00df_32 : decode cJ5_ensureCapacityInternal_d00df 32 = .ok (.invokestatic 108, 3) := by decide +kernel
theorem dJ5_ensureCapacityInternal_d00df_35 : decode cJ5_ensureCapacityInternal_d00df 35 = .ok (.putfield 15, 3) := by decide +kernel
theorem dJ5_ensureCapacityInternal_d00df_38 : decode cJ5_ensureCapacityInternal_d00df 38 = .ok (.return_, 1) := by decide +kernel
theorem dJ5_newCapacity_0f7a4_0 : decode cJ5_newCapacity_0f7a4 0 = .ok (.aload_n 0, 1) := by decide +kernel
theorem dJ5_newCapacity_0f7a4_1 : decode cJ5_newCapacity_0f7a4 1 = .ok (.getfield 15, 3) := by decide +kernel
theorem dJ5_newCapacity_0f7a4_4 : decode cJ5_newCapacity_0f7a4 4 = .ok (.arraylength, 1) := by decide +kernel
theorem dJ5_newCapacity_0f7a4_5 : decode cJ5_newCapacity_0f7a4 5 = .ok (.istore_n 2, 1) := by decide +kernel
theorem dJ5_newCapacity_0f7a4_6 : decode cJ5_newCapacity_0f7a4 6 = .ok (.iload_n 1, 1) := by decide +kernel
theorem dJ5_newCapacity_0f7a4_7 : decode cJ5_newCapacity_0f7a4 7 = .ok (.aload_n 0, 1) := by decide +kernel
theorem dJ5_newCapacity_0f7a4_8 : decode cJ5_newCapacity_0f7a4 8 = .ok (.getfield 22, 3) := by decide +kernel
theorem dJ5_newCapacity_0f7a4_11 : decode cJ5_newCapacity_0f7a4 11 = .ok (.ishl, 1) := by decide +kernel
theorem dJ5_newCapacity_0f7a4_12 : decode cJ5_newCapacity_0f7a4 12 = .ok (.istore_n 3, 1) := by decide +kernel
theorem dJ5_newCapacity_0f7a4_13 : decode cJ5_newCapacity_0f7a4 13 = .ok (.iload_n 3, 1) := by decide +kernel
theorem dJ5_newCapacity_0f7a4_14 : decode cJ5_newCapacity_0f7a4 14 = .ok (.iload_n 2, 1) := by decide +kernel
theorem dJ5_newCapacity_0f7a4_15 : decode cJ5_newCapacity_0f7a4 15 = .ok (.isub, 1) := by decide +kernel
theorem dJ5_newCapacity_0f7a4_16 : decode cJ5_newCapacity_0f7a4 16 = .ok (.istore 4, 2) := by decide +kernel
theorem dJ5_newCapacity_0f7a4_18 : decode cJ5_newCapacity_0f7a4 18 = .ok (.iload_n 2, 1) := by decide +kernel
theorem dJ5_newCapacity_0f7a4_19 : decode cJ5_newCapacity_0f7a4 19 = .ok (.iload 4, 2) := by decide +kernel
theorem dJ5_newCapacity_0f7a4_21 : decode cJ5_newCapacity_0f7a4 21 = .ok (.iload_n 2, 1) := by decide +kernel
theorem dJ5_newCapacity_0f7a4_22 : decode cJ5_newCapacity_0f7a4 22 = .ok (.iconst 2, 1) := by decide +kernel
theorem dJ5_newCapacity_0f7a4_23 : decode cJ5_newCapacity_0f7a4 23 = .ok (.aload_n 0, 1) := by decide +kernel
theorem dJ5_newCapacity_0f7a4_24 : decode cJ5_newCapacity_0f7a4 24 = .ok (.getfield 22, 3) := by decide +kernel
theorem dJ5_newCapacity_0f7a4_27 : decode cJ5_newCapacity_0f7a4 27 = .ok (.ishl, 1) := by decide +kernel
theorem dJ5_newCapacity_0f7a4_28 : decode cJ5_newCapacity_0f7a4 28 = .ok (.iadd, 1) := by decide +kernel
theorem dJ5_newCapacity_0f7a4_29 : decode cJ5_newCapacity_0f7a4 29 = .ok (.invokestatic 114, 3) := by decide +kernel
theorem dJ5_newCapacity_0f7a4_32 : decode cJ5_newCapacity_0f7a4 32 = .ok (.istore 5, 2) := by decide +kernel
theorem dJ5_newCapacity_0f7a4_34 : decode cJ5_newCapacity_0f7a4 34 = .ok (.iload 5, 2) := by decide +kernel
theorem dJ5_newCapacity_0f7a4_36 : decode cJ5_newCapacity_0f7a4 36 = .ok (.ldc 39, 2) := by decide +kernel
theorem dJ5_newCapacity_0f7a4_38 : decode cJ5_newCapacity_0f7a4 38 = .ok (.if_icmp .ne 13, 3) := by decide +kernel
theorem dJ5_newCapacity_0f7a4_41 : decode cJ5_newCapacity_0f7a4 41 = .ok (.new 120, 3) := by decide +kernel
theorem dJ5_newCapacity_0f7a4_44 : decode cJ5_newCapacity_0f7a4 44 = .ok (.dup, 1) := by decide +kernel
theorem dJ5_newCapacity_0f7a4_45 : decode cJ5_newCapacity_0f7a4 45 = .ok (.ldc 122, 2) := by decide +kernel
theorem dJ5_newCapacity_0f7a4_47 : decode cJ5_newCapacity_0f7a4 47 = .ok (.invokespecial 124, 3) := by decide +kernel
theorem dJ5_newCapacity_0f7a4_50 : decode cJ5_newCapacity_0f7a4 50 = .ok (.athrow, 1) := by decide +kernel
theorem dJ5_newCapacity_0f7a4_51 : decode cJ5_newCapacity_0f7a4 51 = .ok (.iload 5, 2) := by decide +kernel
theorem dJ5_newCapacity_0f7a4_53 : decode cJ5_newCapacity_0f7a4 53 = .ok (.aload_n 0, 1) := by decide +kernel
theorem dJ5_newCapacity_0f7a4_54 : decode cJ5_newCapacity_0f7a4 54 = .ok (.getfield 22, 3) := by decide +kernel
theorem dJ5_newCapacity_0f7a4_57 : decode cJ5_newCapacity_0f7a4 57 = .ok (.ishr, 1) := by decide +kernel
theorem dJ5_newCapacity_0f7a4_58 : decode cJ5_newCapacity_0f7a4 58 = .ok (.ireturn, 1) := by decide +kernel
theorem dJ5_inflate_da8c8_0 : decode cJ5_inflate_da8c8 0 = .ok (.aload_n 0, 1) := by decide +kernel
theorem dJ5_inflate_da8c8_1 : decode cJ5_inflate_da8c8 1 = .ok (.invokevirtual 83, 3) := by decide +kernel
theorem dJ5_inflate_da8c8_4 : decode cJ5_inflate_da8c8 4 = .ok (.ifCond .ne 4, 3) := by decide +kernel
theorem dJ5_inflate_da8c8_7 : decode cJ5_inflate_da8c8 7 = .ok (.return_, 1) := by decide +kernel
theorem dJ5_inflate_da8c8_8 : decode cJ5_inflate_da8c8 8 = .ok (.aload_n 0, 1) := by decide +kernel
theorem dJ5_inflate_da8c8_9 : decode cJ5_inflate_da8c8 9 = .ok (.getfield 15, 3) := by decide +kernel
theorem dJ5_inflate_da8c8_12 : decode cJ5_inflate_da8c8 12 = .ok (.arraylength, 1) := by decide +kernel
theorem dJ5_inflate_da8c8_13 : decode cJ5_inflate_da8c8 13 = .ok (.invokestatic 26, 3) := by decide +kernel
theorem dJ5_inflate_da8c8_16 : decode cJ5_inflate_da8c8 16 = .ok (.astore_n 1, 1) := by decide +kernel
theorem dJ5_inflate_da8c8_17 : decode cJ5_inflate_da8c8 17 = .ok (.aload_n 0, 1) := by decide +kernel
theorem dJ5_inflate_da8c8_18 : decode cJ5_inflate_da8c8 18 = .ok (.getfield 15, 3) := by decide +kernel
theorem dJ5_inflate_da8c8_21 : decode cJ5_inflate_da8c8 21 = .ok (.iconst 0, 1) := by decide +kernel
theorem dJ5_inflate_da8c8_22 : decode cJ5_inflate_da8c8 22 = .ok (.aload_n 1, 1) := by decide +kernel
theorem dJ5_inflate_da8c8_23 : decode cJ5_inflate_da8c8 23 = .ok (.iconst 0, 1) := by decide +kernel
theorem dJ5_inflate_da8c8_24 : decode cJ5_inflate_da8c8 24 = .ok (.aload_n 0, 1) := by decide +kernel
theorem dJ5_inflate_da8c8_25 : decode cJ5_inflate_da8c8 25 = .ok (.getfield 79, 3) := by decide +kernel
theorem dJ5_inflate_da8c8_28 : decode cJ5_inflate_da8c8 28 = .ok (.invokestatic 125, 3) := by decide +kernel
theorem dJ5_inflate_da8c8_31 : decode cJ5_inflate_da8c8 31 = .ok (.aload_n 0, 1) := by decide +kernel
theorem dJ5_inflate_da8c8_32 : decode cJ5_inflate_da8c8 32 = .ok (.aload_n 1, 1) := by decide +kernel
theorem dJ5_inflate_da8c8_33 : decode cJ5_inflate_da8c8 33 = .ok (.putfield 15, 3) := by decide +kernel
theorem dJ5_inflate_da8c8_36 : decode cJ5_inflate_da8c8 36 = .ok (.aload_n 0, 1) := by decide +kernel
theorem dJ5_inflate_da8c8_37 : decode cJ5_inflate_da8c8 37 = .ok (.iconst 1, 1) := by decide +kernel
theorem dJ5_inflate_da8c8_38 : decode cJ5_inflate_da8c8 38 = .ok (.putfield 22, 3) := by decide +kernel
theorem dJ5_inflate_da8c8_41 : decode cJ5_inflate_da8c8 41 = .ok (.return_, 1) := by decide +kernel
theorem dJ5_append_cf1ce_0 : decode cJ5_append_cf1ce 0 = .ok (.aload_n 1, 1) := by decide +kernel
theorem dJ5_append_cf1ce_1 : decode cJ5_append_cf1ce 1 = .ok (.ifnonnull 8, 3) := by decide +kernel
theorem dJ5_append_cf1ce_4 : decode cJ5_append_cf1ce 4 = .ok (.aload_n 0, 1) := by decide +kernel
theorem dJ5_append_cf1ce_5 : decode cJ5_append_cf1ce 5 = .ok (.invokevirtual 204, 3) := by decide +kernel
theorem dJ5_append_cf1ce_8 : decode cJ5_append_cf1ce 8 = .ok (.areturn, 1) := by decide +kernel
theorem dJ5_append_cf1ce_9 : decode cJ5_append_cf1ce 9 = .ok (.aload_n 1, 1) := by decide +kernel
theorem dJ5_append_cf1ce_10 : decode cJ5_append_cf1ce 10 = .ok (.invokevirtual 32, 3) := by decide +kernel
theorem dJ5_append_cf1ce_13 : decode cJ5_append_cf1ce 13 = .ok (.istore_n 2, 1) := by decide +kernel
theorem dJ5_append_cf1ce_14 : decode cJ5_append_cf1ce 14 = .ok (.aload_n 0, 1) := by decide +kernel
theorem dJ5_append_cf1ce_15 : decode cJ5_append_cf1ce 15 = .ok (.aload_n 0, 1) := by decide +kernel
theorem dJ5_append_cf1ce_16 : decode cJ5_append_cf1ce 16 = .ok (.getfield 79, 3) := by decide +kernel
theorem dJ5_append_cf1ce_19 : decode cJ5_append_cf1ce 19 = .ok (.iload_n 2, 1) := by decide +kernel
theorem dJ5_append_cf1ce_20 : decode cJ5_append_cf1ce 20 = .ok (.iadd, 1) := by decide +kernel
theorem dJ5_append_cf1ce_21 : decode cJ5_append_cf1ce 21 = .ok (.invokevirtual 100, 3) := by decide +kernel
theorem dJ5_append_cf1ce_24 : decode cJ5_append_cf1ce 24 = .ok (.aload_n 0, 1) := by decide +kernel
theorem dJ5_append_cf1ce_25 : decode cJ5_append_cf1ce 25 = .ok (.aload_n 0, 1) := by decide +kernel
theorem dJ5_append_cf1ce_26 : decode cJ5_append_cf1ce 26 = .ok (.getfield 79, 3) := by decide +kernel
theorem dJ5_append_cf1ce_29 : decode cJ5_append_cf1ce 29 = .ok (.aload_n 1, 1) := by decide +kernel
theorem dJ5_append_cf1ce_30 : decode cJ5_append_cf1ce 30 = .ok (.invokevirtual 208, 3) := by decide +kernel
theorem dJ5_append_cf1ce_33 : decode cJ5_append_cf1ce 33 = .ok (.aload_n 0, 1) := by decide +kernel
theorem dJ5_append_cf1ce_34 : decode cJ5_append_cf1ce 34 = .ok (.dup, 1) := by decide +kernel
theorem dJ5_append_cf1ce_35 : decode cJ5_append_cf1ce 35 = .ok (.getfield 79, 3) := by decide +kernel
theorem dJ5_append_cf1ce_38 : decode cJ5_append_cf1ce 38 = .ok (.iload_n 2, 1) := by decide +kernel
theorem dJ5_append_cf1ce_39 : decode cJ5_append_cf1ce 39 = .ok (.iadd, 1) := by decide +kernel
theorem dJ5_append_cf1ce_40 : decode cJ5_append_cf1ce 40 = .ok (.putfield 79, 3) := by decide +kernel
theorem dJ5_append_cf1ce_43 : decode cJ5_append_cf1ce 43 = .ok (.aload_n 0, 1) := by decide +kernel
theorem dJ5_append_cf1ce_44 : decode cJ5_append_cf1ce 44 = .ok (.areturn, 1) := by decide +kernel
theorem dJ5_appendNull_278bc_0 : decode cJ5_appendNull_278bc 0 = .ok (.aload_n 0, 1) := by decide +kernel
theorem dJ5_appendNull_278bc_1 : decode cJ5_appendNull_278bc 1 = .ok (.aload_n 0, 1) := by decide +kernel
theorem dJ5_appendNull_278bc_2 : decode cJ5_appendNull_278bc 2 = .ok (.getfield 79, 3) := by decide +kernel
theorem dJ5_appendNull_278bc_5 : decode cJ5_appendNull_278bc 5 = .ok (.iconst 4, 1) := by decide +kernel
theorem dJ5_appendNull_278bc_6 : decode cJ5_appendNull_278bc 6 = .ok (.iadd, 1) := by decide +kernel
theorem dJ5_appendNull_278bc_7 : decode cJ5_appendNull_278bc 7 = .ok (.invokevirtual 100, 3) := by decide +kernel
theorem dJ5_appendNull_278bc_10 : decode cJ5_appendNull_278bc 10 = .ok (.aload_n 0, 1) := by decide +kernel
theorem dJ5_appendNull_278bc_11 : decode cJ5_appendNull_278bc 11 = .ok (.getfield 79, 3) := by decide +kernel
theorem dJ5_appendNull_278bc_14 : decode cJ5_appendNull_278bc 14 = .ok (.istore_n 1, 1) := by decide +kernel
theorem dJ5_appendNull_278bc_15 : decode cJ5_appendNull_278bc 15 = .ok (.aload_n 0, 1) := by decide +kernel
theorem dJ5_appendNull_278bc_16 : decode cJ5_appendNull_278bc 16 = .ok (.getfield 15, 3) := by decide +kernel
theorem dJ5_appendNull_278bc_19 : decode cJ5_appendNull_278bc 19 = .ok (.astore_n 2, 1) := by decide +kernel
theorem dJ5_appendNull_278bc_20 : decode cJ5_appendNull_278bc 20 = .ok (.aload_n 0, 1) := by decide +kernel
theorem dJ5_appendNull_278bc_21 : decode cJ5_appendNull_278bc 21 = .ok (.invokevirtual 83, 3) := by decide +kernel
theorem dJ5_appendNull_278bc_24 : decode cJ5_appendNull_278bc 24 = .ok (.ifCond .eq 38, 3) := by decide +kernel
theorem dJ5_appendNull_278bc_27 : decode cJ5_appendNull_278bc 27 = .ok (.aload_n 2, 1) := by decide +kernel
theorem dJ5_appendNull_278bc_28 : decode cJ5_appendNull_278bc 28 = .ok (.iload_n 1, 1) := by decide +kernel
theorem dJ5_appendNull_278bc_29 : decode cJ5_appendNull_278bc 29 = .ok (.iinc 1 1, 3) := by decide +kernel
theorem dJ5_appendNull_278bc_32 : decode cJ5_appendNull_278bc 32 = .ok (.bipush 110, 2) := by decide +kernel
theorem dJ5_appendNull_278bc_34 : decode cJ5_appendNull_278bc 34 = .ok (.bastore, 1) := by decide +kernel
theorem dJ5_appendNull_278bc_35 : decode cJ5_appendNull_278bc 35 = .ok (.aload_n 2, 1) := by decide +kernel
theorem dJ5_appendNull_278bc_36 : decode cJ5_appendNull_278bc 36 = .ok (.iload_n 1, 1) := by decide +kernel
theorem dJ5_appendNull_278bc_37 : decode cJ5_appendNull_278bc 37 = .ok (.iinc 1 1, 3) := by decide +kernel
theorem dJ5_appendNull_278bc_40 : decode cJ5_appendNull_278bc 40 = .ok (.bipush 117, 2) := by decide +kernel
theorem dJ5_appendNull_278bc_42 : decode cJ5_appendNull_278bc 42 = .ok (.bastore, 1) := by decide +kernel
theorem dJ5_appendNull_278bc_43 : decode cJ5_appendNull_278bc 43 = .ok (.aload_n 2, 1) := by decide +kernel
theorem dJ5_appendNull_278bc_44 : decode cJ5_appendNull_278bc 44 = .ok (.iload_n 1, 1) := by decide +kernel
theorem dJ5_appendNull_278bc_45 : decode cJ5_appendNull_278bc 45 = .ok (.iinc 1 1, 3) := by decide +kernel
theorem dJ5_appendNull_278bc_48 : decode cJ5_appendNull_278bc 48 = .ok (.bipush 108, 2) := by decide +kernel
theorem dJ5_appendNull_278bc_50 : decode cJ5_appendNull_278bc 50 = .ok (.bastore, 1) := by decide +kernel
theorem dJ5_appendNull_278bc_51 : decode cJ5_appendNull_278bc 51 = .ok (.aload_n 2, 1) := by decide +kernel
theorem dJ5_appendNull_278bc_52 : decode cJ5_appendNull_278bc 52 = .ok (.iload_n 1, 1) := by decide +kernel
theorem dJ5_appendNull_278bc_53 : decode cJ5_appendNull_278bc 53 = .ok (.iinc 1 1, 3) := by decide +kernel
theorem dJ5_appendNull_278bc_56 : decode cJ5_appendNull_278bc 56 = .ok (.bipush 108, 2) := by decide +kernel
theorem dJ5_appendNull_278bc_58 : decode cJ5_appendNull_278bc 58 = .ok (.bastore, 1) := by decide +kernel
theorem dJ5_appendNull_278bc_59 : decode cJ5_appendNull_278bc 59 = .ok (.goto 17, 3) := by decide +kernel
theorem dJ5_appendNull_278bc_62 : decode cJ5_appendNull_278bc 62 = .ok (.aload_n 2, 1) := by decide +kernel
theorem dJ5_appendNull_278bc_63 : decode cJ5_appendNull_278bc 63 = .ok (.iload_n 1, 1) := by decide +kernel
theorem dJ5_appendNull_278bc_64 : decode cJ5_appendNull_278bc 64 = .ok (.bipush 110, 2) := by decide +kernel
theorem dJ5_appendNull_278bc_66 : decode cJ5_appendNull_278bc 66 = .ok (.bipush 117, 2) := by decide +kernel
theorem dJ5_appendNull_278bc_68 : decode cJ5_appendNull_278bc 68 = .ok (.bipush 108, 2) := by decide +kernel
theorem dJ5_appendNull_278bc_70 : decode cJ5_appendNull_278bc 70 = .ok (.bipush 108, 2) := by decide +kernel
theorem dJ5_appendNull_278bc_72 : decode cJ5_appendNull_278bc 72 = .ok (.invokestatic 226, 3) := by decide +kernel
theorem dJ5_appendNull_278bc_75 : decode cJ5_appendNull_278bc 75 = .ok (.istore_n 1, 1) := by decide +kernel
theorem dJ5_appendNull_278bc_76 : decode cJ5_appendNull_278bc 76 = .ok (.aload_n 0, 1) := by decide +kernel
theorem dJ5_appendNull_278bc_77 : decode cJ5_appendNull_278bc 77 = .ok (.iload_n 1, 1) := by decide +kernel
theorem dJ5_appendNull_278bc_78 : decode cJ5_appendNull_278bc 78 = .ok (.putfield 79, 3) := by decide +kernel
theorem dJ5_appendNull_278bc_81 : decode cJ5_appendNull_278bc 81 = .ok (.aload_n 0, 1) := by decide +kernel
theorem dJ5_appendNull_278bc_82 : decode cJ5_appendNull_278bc 82 = .ok (.areturn, 1) := by decide +kernel
theorem dJ5_append_c97b9_0 : decode cJ5_append_c97b9 0 = .ok (.aload_n 0, 1) := by decide +kernel
theorem dJ5_append_c97b9_1 : decode cJ5_append_c97b9 1 = .ok (.getfield 79, 3) := by decide +kernel
theorem dJ5_append_c97b9_4 : decode cJ5_append_c97b9 4 = .ok (.istore_n 2, 1) := by decide +kernel
theorem dJ5_append_c97b9_5 : decode cJ5_append_c97b9 5 = .ok (.iload_n 2, 1) := by decide +kernel
theorem dJ5_append_c97b9_6 : decode cJ5_append_c97b9 6 = .ok (.iload_n 1, 1) := by decide +kernel
theorem dJ5_append_c97b9_7 : decode cJ5_append_c97b9 7 = .ok (.invokestatic 245, 3) := by decide +kernel
theorem dJ5_append_c97b9_10 : decode cJ5_append_c97b9 10 = .ok (.iadd, 1) := by decide +kernel
theorem dJ5_append_c97b9_11 : decode cJ5_append_c97b9 11 = .ok (.istore_n 3, 1) := by decide +kernel
theorem dJ5_append_c97b9_12 : decode cJ5_append_c97b9 12 = .ok (.aload_n 0, 1) := by decide +kernel
theorem dJ5_append_c97b9_13 : decode cJ5_append_c97b9 13 = .ok (.iload_n 3, 1) := by decide +kernel
theorem dJ5_append_c97b9_14 : decode cJ5_append_c97b9 14 = .ok (.invokevirtual 100, 3) := by decide +kernel
theorem dJ5_append_c97b9_17 : decode cJ5_append_c97b9 17 = .ok (.aload_n 0, 1) := by decide +kernel
theorem dJ5_append_c97b9_18 : decode cJ5_append_c97b9 18 = .ok (.invokevirtual 83, 3) := by decide +kernel
theorem dJ5_append_c97b9_21 : decode cJ5_append_c97b9 21 = .ok (.ifCond .eq 16, 3) := by decide +kernel
theorem dJ5_append_c97b9_24 : decode cJ5_append_c97b9 24 = .ok (.iload_n 1, 1) := by decide +kernel
theorem dJ5_append_c97b9_25 : decode cJ5_append_c97b9 25 = .ok (.iload_n 3, 1) := by decide +kernel
theorem dJ5_append_c97b9_26 : decode cJ5_append_c97b9 26 = .ok (.aload_n 0, 1) := by decide +kernel
theorem dJ5_append_c97b9_27 : decode cJ5_append_c97b9 27 = .ok (.getfield 15, 3) := by decide +kernel
theorem dJ5_append_c97b9_30 : decode cJ5_append_c97b9 30 = .ok (.invokestatic 248, 3) := by decide +kernel
theorem dJ5_append_c97b9_33 : decode cJ5_append_c97b9 33 = .ok (.pop, 1) := by decide +kernel
theorem dJ5_append_c97b9_34 : decode cJ5_append_c97b9 34 = .ok (.goto 14, 3) := by decide +kernel
theorem dJ5_append_c97b9_37 : decode cJ5_append_c97b9 37 = .ok (.iload_n 1, 1) := by decide +kernel
theorem dJ5_append_c97b9_38 : decode cJ5_append_c97b9 38 = .ok (.iload_n 2, 1) := by decide +kernel
theorem dJ5_append_c97b9_39 : decode cJ5_append_c97b9 39 = .ok (.iload_n 3, 1) := by decide +kernel
theorem dJ5_append_c97b9_40 : decode cJ5_append_c97b9 40 = .ok (.aload_n 0, 1) := by decide +kernel
theorem dJ5_append_c97b9_41 : decode cJ5_append_c97b9 41 = .ok (.getfield 15, 3) := by decide +kernel
theorem dJ5_append_c97b9_44 : decode cJ5_append_c97b9 44 = .ok (.invokestatic 251, 3) := by decide +kernel
theorem dJ5_append_c97b9_47 : decode cJ5_append_c97b9 47 = .ok (.pop, 1) := by decide +kernel
theorem dJ5_append_c97b9_48 : decode cJ5_append_c97b9 48 = .ok (.aload_n 0, 1) := by decide +kernel
theorem dJ5_append_c97b9_49 : decode cJ5_append_c97b9 49 = .ok (.iload_n 3, 1) := by decide +kernel
theorem dJ5_append_c97b9_50 : decode cJ5_append_c97b9 50 = .ok (.putfield 79, 3) := by decide +kernel
theorem dJ5_append_c97b9_53 : decode cJ5_append_c97b9 53 = .ok (.aload_n 0, 1) := by decide +kernel
theorem dJ5_append_c97b9_54 : decode cJ5_append_c97b9 54 = .ok (.areturn, 1) := by decide +kernel
theorem dJ5_getValue_6d5f1_0 : decode cJ5_getValue_6d5f1 0 = .ok (.aload_n 0, 1) := by decide +kernel
theorem dJ5_getValue_6d5f1_1 : decode cJ5_getValue_6d5f1 1 = .ok (.getfield 15, 3) := by decide +kernel
theorem dJ5_getValue_6d5f1_4 : decode cJ5_getValue_6d5f1 4 = .ok (.areturn, 1) := by decide +kernel
theorem dJ5_isLatin1_aae02_0 : decode cJ5_isLatin1_aae02 0 = .ok (.getstatic 18, 3) := by decide +kernel
theorem dJ5_isLatin1_aae02_3 : decode cJ5_isLatin1_aae02 3 = .ok (.ifCond .eq 14, 3) := by decide +kernel
theorem dJ5_isLatin1_aae02_6 : decode cJ5_isLatin1_aae02 6 = .ok (.aload_n 0, 1) := by decide +kernel
theorem dJ5_isLatin1_aae02_7 : decode cJ5_isLatin1_aae02 7 = .ok (.getfield 22, 3) := by decide +kernel
theorem dJ5_isLatin1_aae02_10 : decode cJ5_isLatin1_aae02 10 = .ok (.ifCond .ne 7, 3) := by decide +kernel
theorem dJ5_isLatin1_aae02_13 : decode cJ5_isLatin1_aae02 13 = .ok (.iconst 1, 1) := by decide +kernel
theorem dJ5_isLatin1_aae02_14 : decode cJ5_isLatin1_aae02 14 = .ok (.goto 4, 3) := by decide +kernel
theorem dJ5_isLatin1_aae02_17 : decode cJ5_isLatin1_aae02 17 = .ok (.iconst 0, 1) := by decide +kernel
theorem dJ5_isLatin1_aae02_18 : decode cJ5_isLatin1_aae02 18 = .ok (.ireturn, 1) := by decide +kernel
theorem dJ5_inflateIfNeededFor_a7421_0 : decode cJ5_inflateIfNeededFor_a7421 0 = .ok (.getstatic 18, 3) := by decide +kernel
theorem dJ5_inflateIfNeededFor_a7421_3 : decode cJ5_inflateIfNeededFor_a7421 3 = .ok (.ifCond .eq 18, 3) := by decide +kernel
theorem dJ5_inflateIfNeededFor_a7421_6 : decode cJ5_inflateIfNeededFor_a7421 6 = .ok (.aload_n 0, 1) := by decide +kernel
theorem dJ5_inflateIfNeededFor_a7421_7 : decode cJ5_inflateIfNeededFor_a7421 7 = .ok (.getfield 22, 3) := by decide +kernel
theorem dJ5_inflateIfNeededFor_a7421_10 : decode cJ5_inflateIfNeededFor_a7421 10 = .ok (.aload_n 1, 1) := by decide +kernel
theorem dJ5_inflateIfNeededFor_a7421_11 : decode cJ5_inflateIfNeededFor_a7421 11 = .ok (.invokevirtual 40, 3) := by decide +kernel
theorem dJ5_inflateIfNeededFor_a7421_14 : decode cJ5_inflateIfNeededFor_a7421 14 = .ok (.if_icmp .eq 7, 3) := by decide +kernel
theorem dJ5_inflateIfNeededFor_a7421_17 : decode cJ5_inflateIfNeededFor_a7421 17 = .ok (.aload_n 0, 1) := by decide +kernel
theorem dJ5_inflateIfNeededFor_a7421_18 : decode cJ5_inflateIfNeededFor_a7421 18 = .ok (.invokevirtual 195, 3) := by decide +kernel
theorem dJ5_inflateIfNeededFor_a7421_21 : decode cJ5_inflateIfNeededFor_a7421 21 = .ok (.return_, 1) := by decide +kernel
theorem dJ5_putStringAt_47b60_0 : decode cJ5_putStringAt_47b60 0 = .ok (.aload_n 0, 1) := by decide +kernel
theorem dJ5_putStringAt_47b60_1 : decode cJ5_putStringAt_47b60 1 = .ok (.aload_n 2, 1) := by decide +kernel
theorem dJ5_putStringAt_47b60_2 : decode cJ5_putStringAt_47b60 2 = .ok (.invokevirtual 397, 3) := by decide +kernel
theorem dJ5_putStringAt_47b60_5 : decode cJ5_putStringAt_47b60 5 = .ok (.aload_n 2, 1) := by decide +kernel
theorem dJ5_putStringAt_47b60_6 : decode cJ5_putStringAt_47b60 6 = .ok (.aload_n 0, 1) := by decide +kernel
theorem dJ5_putStringAt_47b60_7 : decode cJ5_putStringAt_47b60 7 = .ok (.getfield 15, 3) := by decide +kernel
theorem dJ5_putStringAt_47b60_10 : decode cJ5_putStringAt_47b60 10 = .ok (.iload_n 1, 1) := by decide +kernel
theorem dJ5_putStringAt_47b60_11 : decode cJ5_putStringAt_47b60 11 = .ok (.aload_n 0, 1) := by decide +kernel
theorem dJ5_putStringAt_47b60_12 : decode cJ5_putStringAt_47b60 12 = .ok (.getfield 22, 3) := by decide +kernel
theorem dJ5_putStringAt_47b60_15 : decode cJ5_putStringAt_47b60 15 = .ok (.invokevirtual 399, 3) := by decide +kernel
theorem dJ5_putStringAt_47b60_18 : decode cJ5_putStringAt_47b60 18 = .ok (.return_, 1) := by decide +kernel
theorem dJ11_isValidCodePoint_9a6ad_0 : decode cJ11_isValidCodePoint_9a6ad 0 = .ok (.iload_n 0, 1) := by decide +kernel
theorem dJ11_isValidCodePoint_9a6ad_1 : decode cJ11_isValidCodePoint_9a6ad 1 = .ok (.bipush 16, 2) := by decide +kernel
theorem dJ11_isValidCodePoint_9a6ad_3 : decode cJ11_isValidCodePoint_9a6ad 3 = .ok (.iushr, 1) := by decide +kernel
theorem dJ11_isValidCodePoint_9a6ad_4 : decode cJ11_isValidCodePoint_9a6ad 4 = .ok (.istore_n 1, 1) := by decide +kernel
theorem dJ11_isValidCodePoint_9a6ad_5 : decode cJ11_isValidCodePoint_9a6ad 5 = .ok (.iload_n 1, 1) := by decide +kernel
theorem dJ11_isValidCodePoint_9a6ad_6 : decode cJ11_isValidCodePoint_9a6ad 6 = .ok (.bipush 17, 2) := by decide +kernel
theorem dJ11_isValidCodePoint_9a6ad_8 : decode cJ11_isValidCodePoint_9a6ad 8 = .ok (.if_icmp .ge 7, 3) := by decide +kernel
theorem dJ11_isValidCodePoint_9a6ad_11 : decode cJ11_isValidCodePoint_9a6ad 11 = .ok (.iconst 1, 1) := by decide +kernel
theorem dJ11_isValidCodePoint_9a6ad_12 : decode cJ11_isValidCodePoint_9a6ad 12 = .ok (.goto 4, 3) := by decide +kernel
theorem dJ11_isValidCodePoint_9a6ad_15 : decode cJ11_isValidCodePoint_9a6ad 15 = .ok (.iconst 0, 1) := by decide +kernel
theorem dJ11_isValidCodePoint_9a6ad_16 : decode cJ11_isValidCodePoint_9a6ad 16 = .ok (.ireturn, 1) := by decide +kernel
theorem dJ11_highSurrogate_5068e_0 : decode cJ11_highSurrogate_5068e 0 = .ok (.iload_n 0, 1) := by decide +kernel
theorem dJ11_highSurrogate_5068e_1 : decode cJ11_highSurrogate_5068e 1 = .ok (.bipush 10, 2) := by decide +kernel
theorem dJ11_highSurrogate_5068e_3 : decode cJ11_highSurrogate_5068e 3 = .ok (.iushr, 1) := by decide +kernel
theorem dJ11_highSurrogate_5068e_4 : decode cJ11_highSurrogate_5068e 4 = .ok (.ldc 110, 2) := by decide +kernel
theorem dJ11_highSurrogate_5068e_6 : decode cJ11_highSurrogate_5068e 6 = .ok (.iadd, 1) := by decide +kernel
theorem dJ11_highSurrogate_5068e_7 : decode cJ11_highSurrogate_5068e 7 = .ok (.i2c, 1) := by decide +kernel
theorem dJ11_highSurrogate_5068e_8 : decode cJ11_highSurrogate_5068e 8 = .ok (.ireturn, 1) := by decide +kernel
theorem dJ11_lowSurrogate_5068e_0 : decode cJ11_lowSurrogate_5068e 0 = .ok (.iload_n 0, 1) := by decide +kernel
theorem dJ11_lowSurrogate_5068e_1 : decode cJ11_lowSurrogate_5068e 1 = .ok (.sipush 1023, 3) := by decide +kernel
theorem dJ11_lowSurrogate_5068e_4 : decode cJ11_lowSurrogate_5068e 4 = .ok (.iand, 1) := by decide +kernel
theorem dJ11_lowSurrogate_5068e_5 : decode cJ11_lowSurrogate_5068e 5 = .ok (.ldc 76, 2) := by decide +kernel
theorem dJ11_lowSurrogate_5068e_7 : decode cJ11_lowSurrogate_5068e 7 = .ok (.iadd, 1) := by decide +kernel
theorem dJ11_lowSurrogate_5068e_8 : decode cJ11_lowSurrogate_5068e 8 = .ok (.i2c, 1) := by decide +kernel
theorem dJ11_lowSurrogate_5068e_9 : decode cJ11_lowSurrogate_5068e 9 = .ok (.ireturn, 1) := by decide +kernel
theorem dJ6_getChars_ba4f3_0 : decode cJ6_getChars_ba4f3 0 = .ok (.iload_n 1, 1) := by decide +kernel
theorem dJ6_getChars_ba4f3_1 : decode cJ6_getChars_ba4f3 1 = .ok (.istore 5, 2) := by decide +kernel
theorem dJ6_getChars_ba4f3_3 : decode cJ6_getChars_ba4f3 3 = .ok (.iload_n 0, 1) := by decide +kernel
theorem dJ6_getChars_ba4f3_4 : decode cJ6_getChars_ba4f3 4 = .ok (.ifCond .ge 7, 3) := by decide +kernel
theorem dJ6_getChars_ba4f3_7 : decode cJ6_getChars_ba4f3 7 = .ok (.iconst 1, 1) := by decide +kernel
theorem dJ6_getChars_ba4f3_8 : decode cJ6_getChars_ba4f3 8 = .ok (.goto 4, 3) := by decide +kernel
theorem dJ6_getChars_ba4f3_11 : decode cJ6_getChars_ba4f3 11 = .ok (.iconst 0, 1) := by decide +kernel
theorem dJ6_getChars_ba4f3_12 : decode cJ6_getChars_ba4f3 12 = .ok (.istore 6, 2) := by decide +kernel
theorem dJ6_getChars_ba4f3_14 : decode cJ6_getChars_ba4f3 14 = .ok (.iload 6, 2) := by decide +kernel
theorem dJ6_getChars_ba4f3_16 : decode cJ6_getChars_ba4f3 16 = .ok (.ifCond .ne 6, 3) := by decide +kernel
theorem dJ6_getChars_ba4f3_19 : decode cJ6_getChars_ba4f3 19 = .ok (.iload_n 0, 1) := by decide +kernel
theorem dJ6_getChars_ba4f3_20 : decode cJ6_getChars_ba4f3 20 = .ok (.ineg, 1) := by decide +kernel
theorem dJ6_getChars_ba4f3_21 : decode cJ6_getChars_ba4f3 21 = .ok (.istore_n 0, 1) := by decide +kernel
theorem dJ6_getChars_ba4f3_22 : decode cJ6_getChars_ba4f3 22 = .ok (.iload_n 0, 1) := by decide +kernel
theorem dJ6_getChars_ba4f3_23 : decode cJ6_getChars_ba4f3 23 = .ok (.bipush (-100), 2) := by decide +kernel
theorem dJ6_getChars_ba4f3_25 : decode cJ6_getChars_ba4f3 25 = .ok (.if_icmp .gt 47, 3) := by decide +kernel
theorem dJ6_getChars_ba4f3_28 : decode cJ6_getChars_ba4f3 28 = .ok (.iload_n 0, 1) := by decide +kernel
theorem dJ6_getChars_ba4f3_29 : decode cJ6_getChars_ba4f3 29 = .ok (.bipush 100, 2) := by decide +kernel
theorem dJ6_getChars_ba4f3_31 : decode cJ6_getChars_ba4f3 31 = .ok (.idiv, 1) := by decide +kernel
theorem dJ6_getChars_ba4f3_32 : decode cJ6_getChars_ba4f3 32 = .ok (.istore_n 3, 1) := by decide +kernel
theorem dJ6_getChars_ba4f3_33 : decode cJ6_getChars_ba4f3 33 = .ok (.iload_n 3, 1) := by decide +kernel
theorem dJ6_getChars_ba4f3_34 : decode cJ6_getChars_ba4f3 34 = .ok (.bipush 100, 2) := by decide +kernel
theorem dJ6_getChars_ba4f3_36 : decode cJ6_getChars_ba4f3 36 = .ok (.imul, 1) := by decide +kernel
theorem dJ6_getChars_ba4f3_37 : decode cJ6_getChars_ba4f3 37 = .ok (.iload_n 0, 1) := by decide +kernel
theorem dJ6_getChars_ba4f3_38 : decode cJ6_getChars_ba4f3 38 = .ok (.isub, 1) := by decide +kernel
theorem dJ6_getChars_ba4f3_39 : decode cJ6_getChars_ba4f3 39 = .ok (.istore 4, 2) := by decide +kernel
theorem dJ6_getChars_ba4f3_41 : decode cJ6_getChars_ba4f3 41 = .ok (.iload_n 3, 1) := by decide +kernel
theorem dJ6_getChars_ba4f3_42 : decode cJ6_getChars_ba4f3 42 = .ok (.istore_n 0, 1) := by decide +kernel
theorem dJ6_getChars_ba4f3_43 : decode cJ6_getChars_ba4f3 43 = .ok (.aload_n 2, 1) := by decide +kernel
theorem dJ6_getChars_ba4f3_44 : decode cJ6_getChars_ba4f3 44 = .ok (.iinc 5 (-1), 3) := by decide +kernel
theorem dJ6_getChars_ba4f3_47 : decode cJ6_getChars_ba4f3 47 = .ok (.iload 5, 2) := by decide +kernel
theorem dJ6_getChars_ba4f3_49 : decode cJ6_getChars_ba4f3 49 = .ok (.getstatic 83, 3) := by decide +kernel
theorem dJ6_getChars_ba4f3_52 : decode cJ6_getChars_ba4f3 52 = .ok (.iload 4, 2) := by decide +kernel
theorem dJ6_getChars_ba4f3_54 : decode cJ6_getChars_ba4f3 54 = .ok (.baload, 1) := by decide +kernel
theorem dJ6_getChars_ba4f3_55 : decode cJ6_getChars_ba4f3 55 = .ok (.bastore, 1) := by decide +kernel
theorem dJ6_getChars_ba4f3_56 : decode cJ6_getChars_ba4f3 56 = .ok (.aload_n 2, 1) := by decide +kernel
theorem dJ6_getChars_ba4f3_57 : decode cJ6_getChars_ba4f3 57 = .ok (.iinc 5 (-1), 3) := by decide +kernel
theorem dJ6_getChars_ba4f3_60 : decode cJ6_getChars_ba4f3 60 = .ok (.iload 5, 2) := by decide +kernel
theorem dJ6_getChars_ba4f3_62 : decode cJ6_getChars_ba4f3 62 = .ok (.getstatic 87, 3) := by decide +kernel
theorem dJ6_getChars_ba4f3_65 : decode cJ6_getChars_ba4f3 65 = .ok (.iload 4, 2) := by decide +kernel
theorem dJ6_getChars_ba4f3_67 : decode cJ6_getChars_ba4f3 67 = .ok (.baload, 1) := by decide +kernel
theorem dJ6_getChars_ba4f3_68 : decode cJ6_getChars_ba4f3 68 = .ok (.bastore, 1) := by decide +kernel
theorem dJ6_getChars_ba4f3_69 : decode cJ6_getChars_ba4f3 69 = .ok (.goto (-47), 3) := by decide +kernel
theorem dJ6_getChars_ba4f3_72 : decode cJ6_getChars_ba4f3 72 = .ok (.aload_n 2, 1) := by decide +kernel
theorem dJ6_getChars_ba4f3_73 : decode cJ6_getChars_ba4f3 73 = .ok (.iinc 5 (-1), 3) := by decide +kernel
theorem dJ6_getChars_ba4f3_76 : decode cJ6_getChars_ba4f3 76 = .ok (.iload 5, 2) := by decide +kernel
theorem dJ6_getChars_ba4f3_78 : decode cJ6_getChars_ba4f3 78 = .ok (.getstatic 83, 3) := by decide +kernel
theorem dJ6_getChars_ba4f3_81 : decode cJ6_getChars_ba4f3 81 = .ok (.iload_n 0, 1) := by decide +kernel
theorem dJ6_getChars_ba4f3_82 : decode cJ6_getChars_ba4f3 82 = .ok (.ineg, 1) := by decide +kernel
theorem dJ6_getChars_ba4f3_83 : decode cJ6_getChars_ba4f3 83 = .ok (.baload, 1) := by decide +kernel
theorem dJ6_getChars_ba4f3_84 : decode cJ6_getChars_ba4f3 84 = .ok (.bastore, 1) := by decide +kernel
theorem dJ6_getChars_ba4f3_85 : decode cJ6_getChars_ba4f3 85 = .ok (.iload_n 0, 1) := by decide +kernel
theorem dJ6_getChars_ba4f3_86 : decode cJ6_getChars_ba4f3 86 = .ok (.bipush (-9), 2) := by decide +kernel
theorem dJ6_getChars_ba4f3_88 : decode cJ6_getChars_ba4f3 88 = .ok (.if_icmp .ge 16, 3) := by decide +kernel
theorem dJ6_getChars_ba4f3_91 : decode cJ6_getChars_ba4f3 91 = .ok (.aload_n 2, 1) := by decide +kernel
theorem dJ6_getChars_ba4f3_92 : decode cJ6_getChars_ba4f3 92 = .ok (.iinc 5 (-1), 3) := by decide +kernel
theorem dJ6_getChars_ba4f3_95 : decode cJ6_getChars_ba4f3 95 = .ok (.iload 5, 2) := by decide +kernel
theorem dJ6_getChars_ba4f3_97 : decode cJ6_getChars_ba4f3 97 = .ok (.getstatic 87, 3) := by decide +kernel
theorem dJ6_getChars_ba4f3_100 : decode cJ6_getChars_ba4f3 100 = .ok (.iload_n 0, 1) := by decide +kernel
theorem dJ6_getChars_ba4f3_101 : decode cJ6_getChars_ba4f3 101 = .ok (.ineg, 1) := by decide +kernel
theorem dJ6_getChars_ba4f3_102 : decode cJ6_getChars_ba4f3 102 = .ok (.baload, 1) := by decide +kernel
theorem dJ6_getChars_ba4f3_103 : decode cJ6_getChars_ba4f3 103 = .ok (.bastore, 1) := by decide +kernel
theorem dJ6_getChars_ba4f3_104 : decode cJ6_getChars_ba4f3 104 = .ok (.iload 6, 2) := by decide +kernel
theorem dJ6_getChars_ba4f3_106 : decode cJ6_getChars_ba4f3 106 = .ok (.ifCond .eq 12, 3) := by decide +kernel
theorem dJ6_getChars_ba4f3_109 : decode cJ6_getChars_ba4f3 109 = .ok (.aload_n 2, 1) := by decide +kernel
theorem dJ6_getChars_ba4f3_110 : decode cJ6_getChars_ba4f3 110 = .ok (.iinc 5 (-1), 3) := by decide +kernel
theorem dJ6_getChars_ba4f3_113 : decode cJ6_getChars_ba4f3 113 = .ok (.iload 5, 2) := by decide +kernel
theorem dJ6_getChars_ba4f3_115 : decode cJ6_getChars_ba4f3 115 = .ok (.bipush 45, 2) := by decide +kernel
theorem dJ6_getChars_ba4f3_117 : decode cJ6_getChars_ba4f3 117 = .ok (.bastore, 1) := by decide +kernel
theorem dJ6_getChars_ba4f3_118 : decode cJ6_getChars_ba4f3 118 = .ok (.iload 5, 2) := by decide +kernel
theorem dJ6_getChars_ba4f3_120 : decode cJ6_getChars_ba4f3 120 = .ok (.ireturn, 1) := by decide +kernel
theorem dJ6_stringSize_0f7a4_0 : decode cJ6_stringSize_0f7a4 0 = .ok (.iconst 1, 1) := by decide +kernel
theorem dJ6_stringSize_0f7a4_1 : decode cJ6_stringSize_0f7a4 1 = .ok (.istore_n 1, 1) := by decide +kernel
theorem dJ6_stringSize_0f7a4_2 : decode cJ6_stringSize_0f7a4 2 = .ok (.iload_n 0, 1) := by decide +kernel
theorem dJ6_stringSize_0f7a4_3 : decode cJ6_stringSize_0f7a4 3 = .ok (.ifCond .lt 8, 3) := by decide +kernel
theorem dJ6_stringSize_0f7a4_6 : decode cJ6_stringSize_0f7a4 6 = .ok (.iconst 0, 1) := by decide +kernel
theorem dJ6_stringSize_0f7a4_7 : decode cJ6_stringSize_0f7a4 7 = .ok (.istore_n 1, 1) := by decide +kernel
theorem dJ6_stringSize_0f7a4_8 : decode cJ6_stringSize_0f7a4 8 = .ok (.iload_n 0, 1) := by decide +kernel
theorem dJ6_stringSize_0f7a4_9 : decode cJ6_stringSize_0f7a4 9 = .ok (.ineg, 1) := by decide +kernel
theorem dJ6_stringSize_0f7a4_10 : decode cJ6_stringSize_0f7a4 10 = .ok (.istore_n 0, 1) := by decide +kernel
theorem dJ6_stringSize_0f7a4_11 : decode cJ6_stringSize_0f7a4 11 = .ok (.bipush (-10), 2) := by decide +kernel
theorem dJ6_stringSize_0f7a4_13 : decode cJ6_stringSize_0f7a4 13 = .ok (.istore_n 2, 1) := by decide +kernel
theorem dJ6_stringSize_0f7a4_14 : decode cJ6_stringSize_0f7a4 14 = .ok (.iconst 1, 1) := by decide +kernel
theorem dJ6_stringSize_0f7a4_15 : decode cJ6_stringSize_0f7a4 15 = .ok (.istore_n 3, 1) := by decide +kernel
theorem dJ6_stringSize_0f7a4_16 : decode cJ6_stringSize_0f7a4 16 = .ok (.iload_n 3, 1) := by decide +kernel
theorem dJ6_stringSize_0f7a4_17 : decode cJ6_stringSize_0f7a4 17 = .ok (.bipush 10, 2) := by decide +kernel
theorem dJ6_stringSize_0f7a4_19 : decode cJ6_stringSize_0f7a4 19 = .ok (.if_icmp .ge 23, 3) := by decide +kernel
theorem dJ6_stringSize_0f7a4_22 : decode cJ6_stringSize_0f7a4 22 = .ok (.iload_n 0, 1) := by decide +kernel
theorem dJ6_stringSize_0f7a4_23 : decode cJ6_stringSize_0f7a4 23 = .ok (.iload_n 2, 1) := by decide +kernel
theorem dJ6_stringSize_0f7a4_24 : decode cJ6_stringSize_0f7a4 24 = .ok (.if_icmp .le 7, 3) := by decide +kernel
theorem dJ6_stringSize_0f7a4_27 : decode cJ6_stringSize_0f7a4 27 = .ok (.iload_n 3, 1) := by decide +kernel
theorem dJ6_stringSize_0f7a4_28 : decode cJ6_stringSize_0f7a4 28 = .ok (.iload_n 1, 1) := by decide +kernel
theorem dJ6_stringSize_0f7a4_29 : decode cJ6_stringSize_0f7a4 29 = .ok (.iadd, 1) := by decide +kernel
theorem dJ6_stringSize_0f7a4_30 : decode cJ6_stringSize_0f7a4 30 = .ok (.ireturn, 1) := by decide +kernel
theorem dJ6_stringSize_0f7a4_31 : decode cJ6_stringSize_0f7a4 31 = .ok (.bipush 10, 2) := by decide +kernel
theorem dJ6_stringSize_0f7a4_33 : decode cJ6_stringSize_0f7a4 33 = .ok (.iload_n 2, 1) := by decide +kernel
theorem dJ6_stringSize_0f7a4_34 : decode cJ6_stringSize_0f7a4 34 = .ok (.imul, 1) := by decide +kernel
theorem dJ6_stringSize_0f7a4_35 : decode cJ6_stringSize_0f7a4 35 = .ok (.istore_n 2, 1) := by decide +kernel
theorem dJ6_stringSize_0f7a4_36 : decode cJ6_stringSize_0f7a4 36 = .ok (.iinc 3 1, 3) := by decide +kernel
theorem dJ6_stringSize_0f7a4_39 : decode cJ6_stringSize_0f7a4 39 = .ok (.goto (-23), 3) := by decide +kernel
theorem dJ6_stringSize_0f7a4_42 : decode cJ6_stringSize_0f7a4 42 = .ok (.bipush 10, 2) := by decide +kernel
theorem dJ6_stringSize_0f7a4_44 : decode cJ6_stringSize_0f7a4 44 = .ok (.iload_n 1, 1) := by decide +kernel
theorem dJ6_stringSize_0f7a4_45 : decode cJ6_stringSize_0f7a4 45 = .ok (.iadd, 1) := by decide +kernel
theorem dJ6_stringSize_0f7a4_46 : decode cJ6_stringSize_0f7a4 46 = .ok (.ireturn, 1) := by decide +kernel
theorem dJ6_bitCount_0f7a4_0 : decode cJ6_bitCount_0f7a4 0 = .ok (.iload_n 0, 1) := by decide +kernel
theorem dJ6_bitCount_0f7a4_1 : decode cJ6_bitCount_0f7a4 1 = .ok (.iload_n 0, 1) := by decide +kernel
theorem dJ6_bitCount_0f7a4_2 : decode cJ6_bitCount_0f7a4 2 = .ok (.iconst 1, 1) := by decide +kernel
theorem dJ6_bitCount_0f7a4_3 : decode cJ6_bitCount_0f7a4 3 = .ok (.iushr, 1) := by decide +kernel
theorem dJ6_bitCount_0f7a4_4 : decode cJ6_bitCount_0f7a4 4 = .ok (.ldc_w 265, 3) := by decide +kernel
theorem dJ6_bitCount_0f7a4_7 : decode cJ6_bitCount_0f7a4 7 = .ok (.iand, 1) := by decide +kernel
theorem dJ6_bitCount_0f7a4_8 : decode cJ6_bitCount_0f7a4 8 = .ok (.isub, 1) := by decide +kernel
theorem dJ6_bitCount_0f7a4_9 : decode cJ6_bitCount_0f7a4 9 = .ok (.istore_n 0, 1) := by decide +kernel
theorem dJ6_bitCount_0f7a4_10 : decode cJ6_bitCount_0f7a4 10 = .ok (.iload_n 0, 1) := by decide +kernel
theorem dJ6_bitCount_0f7a4_11 : decode cJ6_bitCount_0f7a4 11 = .ok (.ldc_w 266, 3) := by decide +kernel
theorem dJ6_bitCount_0f7a4_14 : decode cJ6_bitCount_0f7a4 14 = .ok (.iand, 1) := by decide +kernel
theorem dJ6_bitCount_0f7a4_15 : decode cJ6_bitCount_0f7a4 15 = .ok (.iload_n 0, 1) := by decide +kernel
theorem dJ6_bitCount_0f7a4_16 : decode cJ6_bitCount_0f7a4 16 = .ok (.iconst 2, 1) := by decide +kernel
theorem dJ6_bitCount_0f7a4_17 : decode cJ6_bitCount_0f7a4 17 = .ok (.iushr, 1) := by decide +kernel
theorem dJ6_bitCount_0f7a4_18 : decode cJ6_bitCount_0f7a4 18 = .ok (.ldc_w 266, 3) := by decide +kernel
theorem dJ6_bitCount_0f7a4_21 : decode cJ6_bitCount_0f7a4 21 = .ok (.iand, 1) := by decide +kernel
theorem dJ6_bitCount_0f7a4_22 : decode cJ6_bitCount_0f7a4 22 = .ok (.iadd, 1) := by decide +kernel
theorem dJ6_bitCount_0f7a4_23 : decode cJ6_bitCount_0f7a4 23 = .ok (.istore_n 0, 1) := by decide +kernel
theorem dJ6_bitCount_0f7a4_24 : decode cJ6_bitCount_0f7a4 24 = .ok (.iload_n 0, 1) := by decide +kernel
theorem dJ6_bitCount_0f7a4_25 : decode cJ6_bitCount_0f7a4 25 = .ok (.iload_n 0, 1) := by decide +kernel
theorem dJ6_bitCount_0f7a4_26 : decode cJ6_bitCount_0f7a4 26 = .ok (.iconst 4, 1) := by decide +kernel
theorem dJ6_bitCount_0f7a4_27 : decode cJ6_bitCount_0f7a4 27 = .ok (.iushr, 1) := by decide +kernel
theorem dJ6_bitCount_0f7a4_28 : decode cJ6_bitCount_0f7a4 28 = .ok (.iadd, 1) := by decide +kernel
theorem dJ6_bitCount_0f7a4_29 : decode cJ6_bitCount_0f7a4 29 = .ok (.ldc_w 267, 3) := by decide +kernel
theorem dJ6_bitCount_0f7a4_32 : decode cJ6_bitCount_0f7a4 32 = .ok (.iand, 1) := by decide +kernel
theorem dJ6_bitCount_0f7a4_33 : decode cJ6_bitCount_0f7a4 33 = .ok (.istore_n 0, 1) := by decide +kernel
theorem dJ6_bitCount_0f7a4_34 : decode cJ6_bitCount_0f7a4 34 = .ok (.iload_n 0, 1) := by decide +kernel
theorem dJ6_bitCount_0f7a4_35 : decode cJ6_bitCount_0f7a4 35 = .ok (.iload_n 0, 1) := by decide +kernel
theorem dJ6_bitCount_0f7a4_36 : decode cJ6_bitCount_0f7a4 36 = .ok (.bipush 8, 2) := by decide +kernel
theorem dJ6_bitCount_0f7a4_38 : decode cJ6_bitCount_0f7a4 38 = .ok (.iushr, 1) := by decide +kernel
theorem dJ6_bitCount_0f7a4_39 : decode cJ6_bitCount_0f7a4 39 = .ok (.iadd, 1) := by decide +kernel
theorem dJ6_bitCount_0f7a4_40 : decode cJ6_bitCount_0f7a4 40 = .ok (.istore_n 0, 1) := by decide +kernel
theorem dJ6_bitCount_0f7a4_41 : decode cJ6_bitCount_0f7a4 41 = .ok (.iload_n 0, 1) := by decide +kernel
theorem dJ6_bitCount_0f7a4_42 : decode cJ6_bitCount_0f7a4 42 = .ok (.iload_n 0, 1) := by decide +kernel
theorem dJ6_bitCount_0f7a4_43 : decode cJ6_bitCount_0f7a4 43 = .ok (.bipush 16, 2) := by decide +kernel
theorem dJ6_bitCount_0f7a4_45 : decode cJ6_bitCount_0f7a4 45 = .ok (.iushr, 1) := by decide +kernel
theorem dJ6_bitCount_0f7a4_46 : decode cJ6_bitCount_0f7a4 46 = .ok (.iadd, 1) := by decide +kernel
theorem dJ6_bitCount_0f7a4_47 : decode cJ6_bitCount_0f7a4 47 = .ok (.istore_n 0, 1) := by decide +kernel
theorem dJ6_bitCount_0f7a4_48 : decode cJ6_bitCount_0f7a4 48 = .ok (.iload_n 0, 1) := by decide +kernel
theorem dJ6_bitCount_0f7a4_49 : decode cJ6_bitCount_0f7a4 49 = .ok (.bipush 63, 2) := by decide +kernel
theorem dJ6_bitCount_0f7a4_51 : decode cJ6_bitCount_0f7a4 51 = .ok (.iand, 1) := by decide +kernel
theorem dJ6_bitCount_0f7a4_52 : decode cJ6_bitCount_0f7a4 52 = .ok (.ireturn, 1) := by decide +kernel
theorem dJ9_floorMod_7cf53_0 : decode cJ9_floorMod_7cf53 0 = .ok (.iload_n 0, 1) := by decide +kernel
theorem dJ9_floorMod_7cf53_1 : decode cJ9_floorMod_7cf53 1 = .ok (.iload_n 1, 1) := by decide +kernel
theorem dJ9_floorMod_7cf53_2 : decode cJ9_floorMod_7cf53 2 = .ok (.irem, 1) := by decide +kernel
theorem dJ9_floorMod_7cf53_3 : decode cJ9_floorMod_7cf53 3 = .ok (.istore_n 2, 1) := by decide +kernel
theorem dJ9_floorMod_7cf53_4 : decode cJ9_floorMod_7cf53 4 = .ok (.iload_n 0, 1) := by decide +kernel
theorem dJ9_floorMod_7cf53_5 : decode cJ9_floorMod_7cf53 5 = .ok (.iload_n 1, 1) := by decide +kernel
theorem dJ9_floorMod_7cf53_6 : decode cJ9_floorMod_7cf53 6 = .ok (.ixor, 1) := by decide +kernel
theorem dJ9_floorMod_7cf53_7 : decode cJ9_floorMod_7cf53 7 = .ok (.ifCond .ge 11, 3) := by decide +kernel
theorem dJ9_floorMod_7cf53_10 : decode cJ9_floorMod_7cf53 10 = .ok (.iload_n 2, 1) := by decide +kernel
theorem dJ9_floorMod_7cf53_11 : decode cJ9_floorMod_7cf53 11 = .ok (.ifCond .eq 7, 3) := by decide +kernel
theorem dJ9_floorMod_7cf53_14 : decode cJ9_floorMod_7cf53 14 = .ok (.iload_n 2, 1) := by decide +kernel
theorem dJ9_floorMod_7cf53_15 : decode cJ9_floorMod_7cf53 15 = .ok (.iload_n 1, 1) := by decide +kernel
theorem dJ9_floorMod_7cf53_16 : decode cJ9_floorMod_7cf53 16 = .ok (.iadd, 1) := by decide +kernel
theorem dJ9_floorMod_7cf53_17 : decode cJ9_floorMod_7cf53 17 = .ok (.ireturn, 1) := by decide +kernel
theorem dJ9_floorMod_7cf53_18 : decode cJ9_floorMod_7cf53 18 = .ok (.iload_n 2, 1) := by decide +kernel
theorem dJ9_floorMod_7cf53_19 : decode cJ9_floorMod_7cf53 19 = .ok (.ireturn, 1) := by decide +kernel
theorem dJ9_max_7cf53_0 : decode cJ9_max_7cf53 0 = .ok (.iload_n 0, 1) := by decide +kernel
theorem dJ9_max_7cf53_1 : decode cJ9_max_7cf53 1 = .ok (.iload_n 1, 1) := by decide +kernel
theorem dJ9_max_7cf53_2 : decode cJ9_max_7cf53 2 = .ok (.if_icmp .lt 7, 3) := by decide +kernel
theorem dJ9_max_7cf53_5 : decode cJ9_max_7cf53 5 = .ok (.iload_n 0, 1) := by decide +kernel
theorem dJ9_max_7cf53_6 : decode cJ9_max_7cf53 6 = .ok (.goto 4, 3) := by decide +kernel
theorem dJ9_max_7cf53_9 : decode cJ9_max_7cf53 9 = .ok (.iload_n 1, 1) := by decide +kernel
theorem dJ9_max_7cf53_10 : decode cJ9_max_7cf53 10 = .ok (.ireturn, 1) := by decide +kernel
theorem dJ9_min_7cf53_0 : decode cJ9_min_7cf53 0 = .ok (.iload_n 0, 1) := by decide +kernel
theorem dJ9_min_7cf53_1 : decode cJ9_min_7cf53 1 = .ok (.iload_n 1, 1) := by decide +kernel
theorem dJ9_min_7cf53_2 : decode cJ9_min_7cf53 2 = .ok (.if_icmp .gt 7, 3) := by decide +kernel
theorem dJ9_min_7cf53_5 : decode cJ9_min_7cf53 5 = .ok (.iload_n 0, 1) := by decide +kernel
theorem dJ9_min_7cf53_6 : decode cJ9_min_7cf53 6 = .ok (.goto 4, 3) := by decide +kernel
theorem dJ9_min_7cf53_9 : decode cJ9_min_7cf53 9 = .ok (.iload_n 1, 1) := by decide +kernel
theorem dJ9_min_7cf53_10 : decode cJ9_min_7cf53 10 = .ok (.ireturn, 1) := by decide +kernel
theorem dJ0_init_81219_0 : decode cJ0_init_81219 0 = .ok (.aload_n 0, 1) := by decide +kernel
theorem dJ0_init_81219_1 : decode cJ0_init_81219 1 = .ok (.aload_n 1, 1) := by decide +kernel
theorem dJ0_init_81219_2 : decode cJ0_init_81219 2 = .ok (.aconst_null, 1) := by decide +kernel
theorem dJ0_init_81219_3 : decode cJ0_init_81219 3 = .ok (.invokespecial 489, 3) := by decide +kernel
theorem dJ0_init_81219_6 : decode cJ0_init_81219 6 = .ok (.return_, 1) := by decide +kernel
theorem dJ0_length_8abf5_0 : decode cJ0_length_8abf5 0 = .ok (.aload_n 0, 1) := by decide +kernel
theorem dJ0_length_8abf5_1 : decode cJ0_length_8abf5 1 = .ok (.getfield 9, 3) := by decide +kernel
theorem dJ0_length_8abf5_4 : decode cJ0_length_8abf5 4 = .ok (.arraylength, 1) := by decide +kernel
theorem dJ0_length_8abf5_5 : decode cJ0_length_8abf5 5 = .ok (.aload_n 0, 1) := by decide +kernel
theorem dJ0_length_8abf5_6 : decode cJ0_length_8abf5 6 = .ok (.invokevirtual 335, 3) := by decide +kernel
theorem dJ0_length_8abf5_9 : decode cJ0_length_8abf5 9 = .ok (.ishr, 1) := by decide +kernel
theorem dJ0_length_8abf5_10 : decode cJ0_length_8abf5 10 = .ok (.ireturn, 1) := by decide +kernel
theorem dJ0_charAt_5068e_0 : decode cJ0_charAt_5068e 0 = .ok (.aload_n 0, 1) := by decide +kernel
theorem dJ0_charAt_5068e_1 : decode cJ0_charAt_5068e 1 = .ok (.invokevirtual 492, 3) := by decide +kernel
theorem dJ0_charAt_5068e_4 : decode cJ0_charAt_5068e 4 = .ok (.ifCond .eq 12, 3) := by decide +kernel
theorem dJ0_charAt_5068e_7 : decode cJ0_charAt_5068e 7 = .ok (.aload_n 0, 1) := by decide +kernel
theorem dJ0_charAt_5068e_8 : decode cJ0_charAt_5068e 8 = .ok (.getfield 9, 3) := by decide +kernel
theorem dJ0_charAt_5068e_11 : decode cJ0_charAt_5068e 11 = .ok (.iload_n 1, 1) := by decide +kernel
theorem dJ0_charAt_5068e_12 : decode cJ0_charAt_5068e 12 = .ok (.invokestatic 495, 3) := by decide +kernel
theorem dJ0_charAt_5068e_15 : decode cJ0_charAt_5068e 15 = .ok (.ireturn, 1) := by decide +kernel
theorem dJ0_charAt_5068e_16 : decode cJ0_charAt_5068e 16 = .ok (.aload_n 0, 1) := by decide +kernel
theorem dJ0_charAt_5068e_17 : decode cJ0_charAt_5068e 17 = .ok (.getfield 9, 3) := by decide +kernel
theorem dJ0_charAt_5068e_20 : decode cJ0_charAt_5068e 20 = .ok (.iload_n 1, 1) := by decide +kernel
theorem dJ0_charAt_5068e_21 : decode cJ0_charAt_5068e 21 = .ok (.invokestatic 498, 3) := by decide +kernel
theorem dJ0_charAt_5068e_24 : decode cJ0_charAt_5068e 24 = .ok (.ireturn, 1) := by decide +kernel
theorem dJ0_indexOf_0f7a4_0 : decode cJ0_indexOf_0f7a4 0 = .ok (.aload_n 0, 1) := by decide +kernel
theorem dJ0_indexOf_0f7a4_1 : decode cJ0_indexOf_0f7a4 1 = .ok (.iload_n 1, 1) := by decide +kernel
theorem dJ0_indexOf_0f7a4_2 : decode cJ0_indexOf_0f7a4 2 = .ok (.iconst 0, 1) := by decide +kernel
theorem dJ0_indexOf_0f7a4_3 : decode cJ0_indexOf_0f7a4 3 = .ok (.invokevirtual 633, 3) := by decide +kernel
theorem dJ0_indexOf_0f7a4_6 : decode cJ0_indexOf_0f7a4 6 = .ok (.ireturn, 1) := by decide +kernel
theorem dJ0_indexOf_7cf53_0 : decode cJ0_indexOf_7cf53 0 = .ok (.aload_n 0, 1) := by decide +kernel
theorem dJ0_indexOf_7cf53_1 : decode cJ0_indexOf_7cf53 1 = .ok (.invokevirtual 492, 3) := by decide +kernel
theorem dJ0_indexOf_7cf53_4 : decode cJ0_indexOf_7cf53 4 = .ok (.ifCond .eq 19, 3) := by decide +kernel
theorem dJ0_indexOf_7cf53_7 : decode cJ0_indexOf_7cf53 7 = .ok (.aload_n 0, 1) := by decide +kernel
theorem dJ0_indexOf_7cf53_8 : decode cJ0_indexOf_7cf53 8 = .ok (.getfield 9, 3) := by decide +kernel
theorem dJ0_indexOf_7cf53_11 : decode cJ0_indexOf_7cf53 11 = .ok (.iload_n 1, 1) := by decide +kernel
theorem dJ0_indexOf_7cf53_12 : decode cJ0_indexOf_7cf53 12 = .ok (.iload_n 2, 1) := by decide +kernel
theorem dJ0_indexOf_7cf53_13 : decode cJ0_indexOf_7cf53 13 = .ok (.aload_n 0, 1) := by decide +kernel
theorem dJ0_indexOf_7cf53_14 : decode cJ0_indexOf_7cf53 14 = .ok (.invokevirtual 505, 3) := by decide +kernel
theorem dJ0_indexOf_7cf53_17 : decode cJ0_indexOf_7cf53 17 = .ok (.invokestatic 637, 3) := by decide +kernel
theorem dJ0_indexOf_7cf53_20 : decode cJ0_indexOf_7cf53 20 = .ok (.goto 16, 3) := by decide +kernel
theorem dJ0_indexOf_7cf53_23 : decode cJ0_indexOf_7cf53 23 = .ok (.aload_n 0, 1) := by decide +kernel
theorem dJ0_indexOf_7cf53_24 : decode cJ0_indexOf_7cf53 24 = .ok (.getfield 9, 3) := by decide +kernel
theorem dJ0_indexOf_7cf53_27 : decode cJ0_indexOf_7cf53 27 = .ok (.iload_n 1, 1) := by decide +kernel
theorem dJ0_indexOf_7cf53_28 : decode cJ0_indexOf_7cf53 28 = .ok (.iload_n 2, 1) := by decide +kernel
theorem dJ0_indexOf_7cf53_29 : decode cJ0_indexOf_7cf53 29 = .ok (.aload_n 0, 1) := by decide +kernel
theorem dJ0_indexOf_7cf53_30 : decode cJ0_indexOf_7cf53 30 = .ok (.invokevirtual 505, 3) := by decide +kernel
theorem dJ0_indexOf_7cf53_33 : decode cJ0_indexOf_7cf53 33 = .ok (.invokestatic 640, 3) := by decide +kernel
theorem dJ0_indexOf_7cf53_36 : decode cJ0_indexOf_7cf53 36 = .ok (.ireturn, 1) := by decide +kernel
theorem dJ0_getBytes_840e7_0 : decode cJ0_getBytes_840e7 0 = .ok (.aload_n 0, 1) := by decide +kernel
theorem dJ0_getBytes_840e7_1 : decode cJ0_getBytes_840e7 1 = .ok (.invokevirtual 335, 3) := by decide +kernel
theorem dJ0_getBytes_840e7_4 : decode cJ0_getBytes_840e7 4 = .ok (.iload_n 3, 1) := by decide +kernel
theorem dJ0_getBytes_840e7_5 : decode cJ0_getBytes_840e7 5 = .ok (.if_icmp .ne 23, 3) := by decide +kernel
theorem dJ0_getBytes_840e7_8 : decode cJ0_getBytes_840e7 8 = .ok (.aload_n 0, 1) := by decide +kernel
theorem dJ0_getBytes_840e7_9 : decode cJ0_getBytes_840e7 9 = .ok (.getfield 9, 3) := by decide +kernel
theorem dJ0_getBytes_840e7_12 : decode cJ0_getBytes_840e7 12 = .ok (.iconst 0, 1) := by decide +kernel
theorem dJ0_getBytes_840e7_13 : decode cJ0_getBytes_840e7 13 = .ok (.aload_n 1, 1) := by decide +kernel
theorem dJ0_getBytes_840e7_14 : decode cJ0_getBytes_840e7 14 = .ok (.iload_n 2, 1) := by decide +kernel
theorem dJ0_getBytes_840e7_15 : decode cJ0_getBytes_840e7 15 = .ok (.iload_n 3, 1) := by decide +kernel
theorem dJ0_getBytes_840e7_16 : decode cJ0_getBytes_840e7 16 = .ok (.ishl, 1) := by decide +kernel
theorem dJ0_getBytes_840e7_17 : decode cJ0_getBytes_840e7 17 = .ok (.aload_n 0, 1) := by decide +kernel
theorem dJ0_getBytes_840e7_18 : decode cJ0_getBytes_840e7 18 = .ok (.getfield 9, 3) := by decide +kernel
theorem dJ0_getBytes_840e7_21 : decode cJ0_getBytes_840e7 21 = .ok (.arraylength, 1) := by decide +kernel
theorem dJ0_getBytes_840e7_22 : decode cJ0_getBytes_840e7 22 = .ok (.invokestatic 212, 3) := by decide +kernel
theorem dJ0_getBytes_840e7_25 : decode cJ0_getBytes_840e7 25 = .ok (.goto 18, 3) := by decide +kernel
theorem dJ0_getBytes_840e7_28 : decode cJ0_getBytes_840e7 28 = .ok (.aload_n 0, 1) := by decide +kernel
theorem dJ0_getBytes_840e7_29 : decode cJ0_getBytes_840e7 29 = .ok (.getfield 9, 3) := by decide +kernel
theorem dJ0_getBytes_840e7_32 : decode cJ0_getBytes_840e7 32 = .ok (.iconst 0, 1) := by decide +kernel
theorem dJ0_getBytes_840e7_33 : decode cJ0_getBytes_840e7 33 = .ok (.aload_n 1, 1) := by decide +kernel
theorem dJ0_getBytes_840e7_34 : decode cJ0_getBytes_840e7 34 = .ok (.iload_n 2, 1) := by decide +kernel
theorem dJ0_getBytes_840e7_35 : decode cJ0_getBytes_840e7 35 = .ok (.aload_n 0, 1) := by decide +kernel
theorem dJ0_getBytes_840e7_36 : decode cJ0_getBytes_840e7 36 = .ok (.getfield 9, 3) := by decide +kernel
theorem dJ0_getBytes_840e7_39 : decode cJ0_getBytes_840e7 39 = .ok (.arraylength, 1) := by decide +kernel
theorem dJ0_getBytes_840e7_40 : decode cJ0_getBytes_840e7 40 = .ok (.invokestatic 106, 3) := by decide +kernel
theorem dJ0_getBytes_840e7_43 : decode cJ0_getBytes_840e7 43 = .ok (.return_, 1) := by decide +kernel
theorem dJ0_init_db425_0 : decode cJ0_init_db425 0 = .ok (.aload_n 0, 1) := by decide +kernel
theorem dJ0_init_db425_1 : decode cJ0_init_db425 1 = .ok (.invokespecial 1, 3) := by decide +kernel
theorem dJ0_init_db425_4 : decode cJ0_init_db425 4 = .ok (.aload_n 1, 1) := by decide +kernel
theorem dJ0_init_db425_5 : decode cJ0_init_db425 5 = .ok (.invokevirtual 552, 3) := by decide +kernel
theorem dJ0_init_db425_8 : decode cJ0_init_db425 8 = .ok (.astore_n 3, 1) := by decide +kernel
theorem dJ0_init_db425_9 : decode cJ0_init_db425 9 = .ok (.aload_n 1, 1) := by decide +kernel
theorem dJ0_init_db425_10 : decode cJ0_init_db425 10 = .ok (.invokevirtual 549, 3) := by decide +kernel
theorem dJ0_init_db425_13 : decode cJ0_init_db425 13 = .ok (.istore 4, 2) := by decide +kernel
theorem dJ0_init_db425_15 : decode cJ0_init_db425 15 = .ok (.aload_n 1, 1) := by decide +kernel
theorem dJ0_init_db425_16 : decode cJ0_init_db425 16 = .ok (.invokevirtual 1047, 3) := by decide +kernel
theorem dJ0_init_db425_19 : decode cJ0_init_db425 19 = .ok (.ifCond .eq 22, 3) := by decide +kernel
theorem dJ0_init_db425_22 : decode cJ0_init_db425 22 = .ok (.aload_n 0, 1) := by decide +kernel
theorem dJ0_init_db425_23 : decode cJ0_init_db425 23 = .ok (.iconst 0, 1) := by decide +kernel
theorem dJ0_init_db425_24 : decode cJ0_init_db425 24 = .ok (.putfield 15, 3) := by decide +kernel
theorem dJ0_init_db425_27 : decode cJ0_init_db425 27 = .ok (.aload_n 0, 1) := by decide +kernel
theorem dJ0_init_db425_28 : decode cJ0_init_db425 28 = .ok (.aload_n 3, 1) := by decide +kernel
theorem dJ0_init_db425_29 : decode cJ0_init_db425 29 = .ok (.iconst 0, 1) := by decide +kernel
theorem dJ0_init_db425_30 : decode cJ0_init_db425 30 = .ok (.iload 4, 2) := by decide +kernel
theorem dJ0_init_db425_32 : decode cJ0_init_db425 32 = .ok (.invokestatic 54, 3) := by decide +kernel
theorem dJ0_init_db425_35 : decode cJ0_init_db425 35 = .ok (.putfield 9, 3) := by decide +kernel
theorem dJ0_init_db425_38 : decode cJ0_init_db425 38 = .ok (.goto 59, 3) := by decide +kernel
theorem dJ0_init_db425_41 : decode cJ0_init_db425 41 = .ok (.getstatic 38, 3) := by decide +kernel
theorem dJ0_init_db425_44 : decode cJ0_init_db425 44 = .ok (.ifCond .eq 35, 3) := by decide +kernel
theorem dJ0_init_db425_47 : decode cJ0_init_db425 47 = .ok (.aload_n 1, 1) := by decide +kernel
theorem dJ0_init_db425_48 : decode cJ0_init_db425 48 = .ok (.getfield 1048, 3) := by decide +kernel
theorem dJ0_init_db425_51 : decode cJ0_init_db425 51 = .ok (.ifCond .eq 28, 3) := by decide +kernel
theorem dJ0_init_db425_54 : decode cJ0_init_db425 54 = .ok (.aload_n 0, 1) := by decide +kernel
theorem dJ0_init_db425_55 : decode cJ0_init_db425 55 = .ok (.aload_n 3, 1) := by decide +kernel
theorem dJ0_init_db425_56 : decode cJ0_init_db425 56 = .ok (.iconst 0, 1) := by decide +kernel
theorem dJ0_init_db425_57 : decode cJ0_init_db425 57 = .ok (.iload 4, 2) := by decide +kernel
theorem dJ0_init_db425_59 : decode cJ0_init_db425 59 = .ok (.invokestatic 1051, 3) := by decide +kernel
theorem dJ0_init_db425_62 : decode cJ0_init_db425 62 = .ok (.putfield 9, 3) := by decide +kernel
theorem dJ0_init_db425_65 : decode cJ0_init_db425 65 = .ok (.aload_n 0, 1) := by decide +kernel
theorem dJ0_init_db425_66 : decode cJ0_init_db425 66 = .ok (.aload_n 0, 1) := by decide +kernel
theorem dJ0_init_db425_67 : decode cJ0_init_db425 67 = .ok (.getfield 9, 3) := by decide +kernel
theorem dJ0_init_db425_70 : decode cJ0_init_db425 70 = .ok (.iload 4, 2) := by decide +kernel
theorem dJ0_init_db425_72 : decode cJ0_init_db425 72 = .ok (.invokestatic 47, 3) := by decide +kernel
theorem dJ0_init_db425_75 : decode cJ0_init_db425 75 = .ok (.putfield 15, 3) := by decide +kernel
theorem dJ0_init_db425_78 : decode cJ0_init_db425 78 = .ok (.return_, 1) := by decide +kernel
theorem dJ0_init_db425_79 : decode cJ0_init_db425 79 = .ok (.aload_n 0, 1) := by decide +kernel
theorem dJ0_init_db425_80 : decode cJ0_init_db425 80 = .ok (.iconst 1, 1) := by decide +kernel
theorem dJ0_init_db425_81 : decode cJ0_init_db425 81 = .ok (.putfield 15, 3) := by decide +kernel
theorem dJ0_init_db425_84 : decode cJ0_init_db425 84 = .ok (.aload_n 0, 1) := by decide +kernel
theorem dJ0_init_db425_85 : decode cJ0_init_db425 85 = .ok (.aload_n 3, 1) := by decide +kernel
theorem dJ0_init_db425_86 : decode cJ0_init_db425 86 = .ok (.iconst 0, 1) := by decide +kernel
theorem dJ0_init_db425_87 : decode cJ0_init_db425 87 = .ok (.iload 4, 2) := by decide +kernel
theorem dJ0_init_db425_89 : decode cJ0_init_db425 89 = .ok (.iconst 1, 1) := by decide +kernel
theorem dJ0_init_db425_90 : decode cJ0_init_db425 90 = .ok (.ishl, 1) := by decide +kernel
theorem dJ0_init_db425_91 : decode cJ0_init_db425 91 = .ok (.invokestatic 54, 3) := by decide +kernel
theorem dJ0_init_db425_94 : decode cJ0_init_db425 94 = .ok (.putfield 9, 3) := by decide +kernel
theorem dJ0_init_db425_97 : decode cJ0_init_db425 97 = .ok (.return_, 1) := by decide +kernel
theorem dJ0_coder_7d493_0 : decode cJ0_coder_7d493 0 = .ok (.getstatic 38, 3) := by decide +kernel
theorem dJ0_coder_7d493_3 : decode cJ0_coder_7d493 3 = .ok (.ifCond .eq 10, 3) := by decide +kernel
theorem dJ0_coder_7d493_6 : decode cJ0_coder_7d493 6 = .ok (.aload_n 0, 1) := by decide +kernel
theorem dJ0_coder_7d493_7 : decode cJ0_coder_7d493 7 = .ok (.getfield 15, 3) := by decide +kernel
theorem dJ0_coder_7d493_10 : decode cJ0_coder_7d493 10 = .ok (.goto 4, 3) := by decide +kernel
theorem dJ0_coder_7d493_13 : decode cJ0_coder_7d493 13 = .ok (.iconst 1, 1) := by decide +kernel
theorem dJ0_coder_7d493_14 : decode cJ0_coder_7d493 14 = .ok (.ireturn, 1) := by decide +kernel
theorem dJ0_isLatin1_aae02_0 : decode cJ0_isLatin1_aae02 0 = .ok (.getstatic 38, 3) := by decide +kernel
theorem dJ0_isLatin1_aae02_3 : decode cJ0_isLatin1_aae02 3 = .ok (.ifCond .eq 14, 3) := by decide +kernel
theorem dJ0_isLatin1_aae02_6 : decode cJ0_isLatin1_aae02 6 = .ok (.aload_n 0, 1) := by decide +kernel
theorem dJ0_isLatin1_aae02_7 : decode cJ0_isLatin1_aae02 7 = .ok (.getfield 15, 3) := by decide +kernel
theorem dJ0_isLatin1_aae02_10 : decode cJ0_isLatin1_aae02 10 = .ok (.ifCond .ne 7, 3) := by decide +kernel
theorem dJ0_isLatin1_aae02_13 : decode cJ0_isLatin1_aae02 13 = .ok (.iconst 1, 1) := by decide +kernel
theorem dJ0_isLatin1_aae02_14 : decode cJ0_isLatin1_aae02 14 = .ok (.goto 4, 3) := by decide +kernel
theorem dJ0_isLatin1_aae02_17 : decode cJ0_isLatin1_aae02 17 = .ok (.iconst 0, 1) := by decide +kernel
theorem dJ0_isLatin1_aae02_18 : decode cJ0_isLatin1_aae02 18 = .ok (.ireturn, 1) := by decide +kernel
theorem dJ0_checkIndex_df160_0 : decode cJ0_checkIndex_df160 0 = .ok (.iload_n 0, 1) := by decide +kernel
theorem dJ0_checkIndex_df160_1 : decode cJ0_checkIndex_df160 1 = .ok (.iload_n 1, 1) := by decide +kernel
theorem dJ0_checkIndex_df160_2 : decode cJ0_checkIndex_df160 2 = .ok (.getstatic 1053, 3) := by decide +kernel
theorem dJ0_checkIndex_df160_5 : decode cJ0_checkIndex_df160 5 = .ok (.invokestatic 1059, 3) := by decide +kernel
theorem dJ0_checkIndex_df160_8 : decode cJ0_checkIndex_df160 8 = .ok (.pop, 1) := by decide +kernel
theorem dJ0_checkIndex_df160_9 : decode cJ0_checkIndex_df160 9 = .ok (.return_, 1) := by decide +kernel
theorem dJ0_checkBoundsOffCount_cabcc_0 : decode cJ0_checkBoundsOffCount_cabcc 0 = .ok (.iload_n 0, 1) := by decide +kernel
theorem dJ0_checkBoundsOffCount_cabcc_1 : decode cJ0_checkBoundsOffCount_cabcc 1 = .ok (.iload_n 1, 1) := by decide +kernel
theorem dJ0_checkBoundsOffCount_cabcc_2 : decode cJ0_checkBoundsOffCount_cabcc 2 = .ok (.iload_n 2, 1) := by decide +kernel
theorem dJ0_checkBoundsOffCount_cabcc_3 : decode cJ0_checkBoundsOffCount_cabcc 3 = .ok (.getstatic 1053, 3) := by decide +kernel
theorem dJ0_checkBoundsOffCount_cabcc_6 : decode cJ0_checkBoundsOffCount_cabcc 6 = .ok (.invokestatic 1065, 3) := by decide +kernel
theorem dJ0_checkBoundsOffCount_cabcc_9 : decode cJ0_checkBoundsOffCount_cabcc 9 = .ok (.ireturn, 1) := by decide +kernel
theorem dJ0_checkBoundsBeginEnd_23922_0 : decode cJ0_checkBoundsBeginEnd_23922 0 = .ok (.iload_n 0, 1) := by decide +kernel
theorem dJ0_checkBoundsBeginEnd_23922_1 : decode cJ0_checkBoundsBeginEnd_23922 1 = .ok (.iload_n 1, 1) := by decide +kernel
theorem dJ0_checkBoundsBeginEnd_23922_2 : decode cJ0_checkBoundsBeginEnd_23922 2 = .ok (.iload_n 2, 1) := by decide +kernel
theorem dJ0_checkBoundsBeginEnd_23922_3 : decode cJ0_checkBoundsBeginEnd_23922 3 = .ok (.getstatic 1053, 3) := by decide +kernel
theorem dJ0_checkBoundsBeginEnd_23922_6 : decode cJ0_checkBoundsBeginEnd_23922 6 = .ok (.invokestatic 1062, 3) := by decide +kernel
theorem dJ0_checkBoundsBeginEnd_23922_9 : decode cJ0_checkBoundsBeginEnd_23922 9 = .ok (.pop, 1) := by decide +kernel
theorem dJ0_checkBoundsBeginEnd_23922_10 : decode cJ0_checkBoundsBeginEnd_23922 10 = .ok (.return_, 1) := by decide +kernel
theorem dJ4_init_da8c8_0 : decode cJ4_init_da8c8 0 = .ok (.aload_n 0, 1) := by decide +kernel
theorem dJ4_init_da8c8_1 : decode cJ4_init_da8c8 1 = .ok (.bipush 16, 2) := by decide +kernel
theorem dJ4_init_da8c8_3 : decode cJ4_init_da8c8 3 = .ok (.invokespecial 1, 3) := by decide +kernel
theorem dJ4_init_da8c8_6 : decode cJ4_init_da8c8 6 = .ok (.return_, 1) := by decide +kernel
theorem dJ4_append_15ec4_0 : decode cJ4_append_15ec4 0 = .ok (.aload_n 0, 1) := by decide +kernel
theorem dJ4_append_15ec4_1 : decode cJ4_append_15ec4 1 = .ok (.aload_n 1, 1) := by decide +kernel
theorem dJ4_append_15ec4_2 : decode cJ4_append_15ec4 2 = .ok (.invokespecial 29, 3) := by decide +kernel
theorem dJ4_append_15ec4_5 : decode cJ4_append_15ec4 5 = .ok (.pop, 1) := by decide +kernel
theorem dJ4_append_15ec4_6 : decode cJ4_append_15ec4 6 = .ok (.aload_n 0, 1) := by decide +kernel
theorem dJ4_append_15ec4_7 : decode cJ4_append_15ec4 7 = .ok (.areturn, 1) := by decide +kernel
theorem dJ4_append_bf812_0 : decode cJ4_append_bf812 0 = .ok (.aload_n 0, 1) := by decide +kernel
theorem dJ4_append_bf812_1 : decode cJ4_append_bf812 1 = .ok (.iload_n 1, 1) := by decide +kernel
theorem dJ4_append_bf812_2 : decode cJ4_append_bf812 2 = .ok (.invokespecial 53, 3) := by decide +kernel
theorem dJ4_append_bf812_5 : decode cJ4_append_bf812 5 = .ok (.pop, 1) := by decide +kernel
theorem dJ4_append_bf812_6 : decode cJ4_append_bf812 6 = .ok (.aload_n 0, 1) := by decide +kernel
theorem dJ4_append_bf812_7 : decode cJ4_append_bf812 7 = .ok (.areturn, 1) := by decide +kernel
theorem dJ4_toString_0e30d_0 : decode cJ4_toString_0e30d 0 = .ok (.new 18, 3) := by decide +kernel
theorem dJ4_toString_0e30d_3 : decode cJ4_toString_0e30d 3 = .ok (.dup, 1) := by decide +kernel
theorem dJ4_toString_0e30d_4 : decode cJ4_toString_0e30d 4 = .ok (.aload_n 0, 1) := by decide +kernel
theorem dJ4_toString_0e30d_5 : decode cJ4_toString_0e30d 5 = .ok (.invokespecial 137, 3) := by decide +kernel
theorem dJ4_toString_0e30d_8 : decode cJ4_toString_0e30d 8 = .ok (.areturn, 1) := by decide +kernel
theorem dJ4_length_8abf5_0 : decode cJ4_length_8abf5 0 = .ok (.aload_n 0, 1) := by decide +kernel
theorem dJ4_length_8abf5_1 : decode cJ4_length_8abf5 1 = .ok (.invokespecial 343, 3) := by decide +kernel
theorem dJ4_length_8abf5_4 : decode cJ4_length_8abf5 4 = .ok (.ireturn, 1) := by decide +kernel
theorem dJ1_charAt_3b067_0 : decode cJ1_charAt_3b067 0 = .ok (.iload_n 1, 1) := by decide +kernel
theorem dJ1_charAt_3b067_1 : decode cJ1_charAt_3b067 1 = .ok (.aload_n 0, 1) := by decide +kernel
theorem dJ1_charAt_3b067_2 : decode cJ1_charAt_3b067 2 = .ok (.arraylength, 1) := by decide +kernel
theorem dJ1_charAt_3b067_3 : decode cJ1_charAt_3b067 3 = .ok (.invokestatic 9, 3) := by decide +kernel
theorem dJ1_charAt_3b067_6 : decode cJ1_charAt_3b067 6 = .ok (.aload_n 0, 1) := by decide +kernel
theorem dJ1_charAt_3b067_7 : decode cJ1_charAt_3b067 7 = .ok (.iload_n 1, 1) := by decide +kernel
theorem dJ1_charAt_3b067_8 : decode cJ1_charAt_3b067 8 = .ok (.baload, 1) := by decide +kernel
theorem dJ1_charAt_3b067_9 : decode cJ1_charAt_3b067 9 = .ok (.sipush 255, 3) := by decide +kernel
theorem dJ1_charAt_3b067_12 : decode cJ1_charAt_3b067 12 = .ok (.iand, 1) := by decide +kernel
theorem dJ1_charAt_3b067_13 : decode cJ1_charAt_3b067 13 = .ok (.i2c, 1) := by decide +kernel
theorem dJ1_charAt_3b067_14 : decode cJ1_charAt_3b067 14 = .ok (.ireturn, 1) := by decide +kernel
theorem dJ1_canEncode_9a6ad_0 : decode cJ1_canEncode_9a6ad 0 = .ok (.iload_n 0, 1) := by decide +kernel
theorem dJ1_canEncode_9a6ad_1 : decode cJ1_canEncode_9a6ad 1 = .ok (.ifCond .lt 14, 3) := by decide +kernel
theorem dJ1_canEncode_9a6ad_4 : decode cJ1_canEncode_9a6ad 4 = .ok (.iload_n 0, 1) := by decide +kernel
theorem dJ1_canEncode_9a6ad_5 : decode cJ1_canEncode_9a6ad 5 = .ok (.sipush 255, 3) := by decide +kernel
theorem dJ1_canEncode_9a6ad_8 : decode cJ1_canEncode_9a6ad 8 = .ok (.if_icmp .gt 7, 3) := by decide +kernel
theorem dJ1_canEncode_9a6ad_11 : decode cJ1_canEncode_9a6ad 11 = .ok (.iconst 1, 1) := by decide +kernel
theorem dJ1_canEncode_9a6ad_12 : decode cJ1_canEncode_9a6ad 12 = .ok (.goto 4, 3) := by decide +kernel
theorem dJ1_canEncode_9a6ad_15 : decode cJ1_canEncode_9a6ad 15 = .ok (.iconst 0, 1) := by decide +kernel
theorem dJ1_canEncode_9a6ad_16 : decode cJ1_canEncode_9a6ad 16 = .ok (.ireturn, 1) := by decide +kernel
theorem dJ1_indexOf_4cfef_0 : decode cJ1_indexOf_4cfef 0 = .ok (.iload_n 1, 1) := by decide +kernel
theorem dJ1_indexOf_4cfef_1 : decode cJ1_indexOf_4cfef 1 = .ok (.invokestatic 88, 3) := by decide +kernel
theorem dJ1_indexOf_4cfef_4 : decode cJ1_indexOf_4cfef 4 = .ok (.ifCond .ne 5, 3) := by decide +kernel
theorem dJ1_indexOf_4cfef_7 : decode cJ1_indexOf_4cfef 7 = .ok (.iconst (-1), 1) := by decide +kernel
theorem dJ1_indexOf_4cfef_8 : decode cJ1_indexOf_4cfef 8 = .ok (.ireturn, 1) := by decide +kernel
theorem dJ1_indexOf_4cfef_9 : decode cJ1_indexOf_4cfef 9 = .ok (.iload_n 2, 1) := by decide +kernel
theorem dJ1_indexOf_4cfef_10 : decode cJ1_indexOf_4cfef 10 = .ok (.iconst 0, 1) := by decide +kernel
theorem dJ1_indexOf_4cfef_11 : decode cJ1_indexOf_4cfef 11 = .ok (.invokestatic 92, 3) := by decide +kernel
theorem dJ1_indexOf_4cfef_14 : decode cJ1_indexOf_4cfef 14 = .ok (.istore_n 2, 1) := by decide +kernel
theorem dJ1_indexOf_4cfef_15 : decode cJ1_indexOf_4cfef 15 = .ok (.iload_n 3, 1) := by decide +kernel
theorem dJ1_indexOf_4cfef_16 : decode cJ1_indexOf_4cfef 16 = .ok (.aload_n 0, 1) := by decide +kernel
theorem dJ1_indexOf_4cfef_17 : decode cJ1_indexOf_4cfef 17 = .ok (.arraylength, 1) := by decide +kernel
theorem dJ1_indexOf_4cfef_18 : decode cJ1_indexOf_4cfef 18 = .ok (.invokestatic 38, 3) := by decide +kernel
theorem dJ1_indexOf_4cfef_21 : decode cJ1_indexOf_4cfef 21 = .ok (.istore_n 3, 1) := by decide +kernel
theorem dJ1_indexOf_4cfef_22 : decode cJ1_indexOf_4cfef 22 = .ok (.iload_n 2, 1) := by decide +kernel
theorem dJ1_indexOf_4cfef_23 : decode cJ1_indexOf_4cfef 23 = .ok (.iload_n 3, 1) := by decide +kernel
theorem dJ1_indexOf_4cfef_24 : decode cJ1_indexOf_4cfef 24 = .ok (.if_icmp .lt 5, 3) := by decide +kernel
theorem dJ1_indexOf_4cfef_27 : decode cJ1_indexOf_4cfef 27 = .ok (.iconst (-1), 1) := by decide +kernel
theorem dJ1_indexOf_4cfef_28 : decode cJ1_indexOf_4cfef 28 = .ok (.ireturn, 1) := by decide +kernel
theorem dJ1_indexOf_4cfef_29 : decode cJ1_indexOf_4cfef 29 = .ok (.aload_n 0, 1) := by decide +kernel
theorem dJ1_indexOf_4cfef_30 : decode cJ1_indexOf_4cfef 30 = .ok (.iload_n 1, 1) := by decide +kernel
theorem dJ1_indexOf_4cfef_31 : decode cJ1_indexOf_4cfef 31 = .ok (.iload_n 2, 1) := by decide +kernel
theorem dJ1_indexOf_4cfef_32 : decode cJ1_indexOf_4cfef 32 = .ok (.iload_n 3, 1) := by decide +kernel
theorem dJ1_indexOf_4cfef_33 : decode cJ1_indexOf_4cfef 33 = .ok (.invokestatic 95, 3) := by decide +kernel
theorem dJ1_indexOf_4cfef_36 : decode cJ1_indexOf_4cfef 36 = .ok (.ireturn, 1) := by decide +kernel
theorem dJ1_indexOfChar_4cfef_0 : decode cJ1_indexOfChar_4cfef 0 = .ok (.iload_n 1, 1) := by decide +kernel
theorem dJ1_indexOfChar_4cfef_1 : decode cJ1_indexOfChar_4cfef 1 = .ok (.i2b, 1) := by decide +kernel
theorem dJ1_indexOfChar_4cfef_2 : decode cJ1_indexOfChar_4cfef 2 = .ok (.istore 4, 2) := by decide +kernel
theorem dJ1_indexOfChar_4cfef_4 : decode cJ1_indexOfChar_4cfef 4 = .ok (.iload_n 2, 1) := by decide +kernel
theorem dJ1_indexOfChar_4cfef_5 : decode cJ1_indexOfChar_4cfef 5 = .ok (.istore 5, 2) := by decide +kernel
theorem dJ1_indexOfChar_4cfef_7 : decode cJ1_indexOfChar_4cfef 7 = .ok (.iload 5, 2) := by decide +kernel
theorem dJ1_indexOfChar_4cfef_9 : decode cJ1_indexOfChar_4cfef 9 = .ok (.iload_n 3, 1) := by decide +kernel
theorem dJ1_indexOfChar_4cfef_10 : decode cJ1_indexOfChar_4cfef 10 = .ok (.if_icmp .ge 21, 3) := by decide +kernel
theorem dJ1_indexOfChar_4cfef_13 : decode cJ1_indexOfChar_4cfef 13 = .ok (.aload_n 0, 1) := by decide +kernel
theorem dJ1_indexOfChar_4cfef_14 : decode cJ1_indexOfChar_4cfef 14 = .ok (.iload 5, 2) := by decide +kernel
theorem dJ1_indexOfChar_4cfef_16 : decode cJ1_indexOfChar_4cfef 16 = .ok (.baload, 1) := by decide +kernel
theorem dJ1_indexOfChar_4cfef_17 : decode cJ1_indexOfChar_4cfef 17 = .ok (.iload 4, 2) := by decide +kernel
theorem dJ1_indexOfChar_4cfef_19 : decode cJ1_indexOfChar_4cfef 19 = .ok (.if_icmp .ne 6, 3) := by decide +kernel
theorem dJ1_indexOfChar_4cfef_22 : decode cJ1_indexOfChar_4cfef 22 = .ok (.iload 5, 2) := by decide +kernel
theorem dJ1_indexOfChar_4cfef_24 : decode cJ1_indexOfChar_4cfef 24 = .ok (.ireturn, 1) := by decide +kernel
theorem dJ1_indexOfChar_4cfef_25 : decode cJ1_indexOfChar_4cfef 25 = .ok (.iinc 5 1, 3) := by decide +kernel
theorem dJ1_indexOfChar_4cfef_28 : decode cJ1_indexOfChar_4cfef 28 = .ok (.goto (-21), 3) := by decide +kernel
theorem dJ1_indexOfChar_4cfef_31 : decode cJ1_indexOfChar_4cfef 31 = .ok (.iconst (-1), 1) := by decide +kernel
theorem dJ1_indexOfChar_4cfef_32 : decode cJ1_indexOfChar_4cfef 32 = .ok (.ireturn, 1) := by decide +kernel
theorem dJ1_inflate_0e8fd_0 : decode cJ1_inflate_0e8fd 0 = .ok (.aload_n 0, 1) := by decide +kernel
theorem dJ1_inflate_0e8fd_1 : decode cJ1_inflate_0e8fd 1 = .ok (.iload_n 1, 1) := by decide +kernel
theorem dJ1_inflate_0e8fd_2 : decode cJ1_inflate_0e8fd 2 = .ok (.aload_n 2, 1) := by decide +kernel
theorem dJ1_inflate_0e8fd_3 : decode cJ1_inflate_0e8fd 3 = .ok (.iload_n 3, 1) := by decide +kernel
theorem dJ1_inflate_0e8fd_4 : decode cJ1_inflate_0e8fd 4 = .ok (.iload 4, 2) := by decide +kernel
theorem dJ1_inflate_0e8fd_6 : decode cJ1_inflate_0e8fd 6 = .ok (.invokestatic 240, 3) := by decide +kernel
theorem dJ1_inflate_0e8fd_9 : decode cJ1_inflate_0e8fd 9 = .ok (.return_, 1) := by decide +kernel
theorem dJ2_newBytesFor_77867_0 : decode cJ2_newBytesFor_77867 0 = .ok (.iload_n 0, 1) := by decide +kernel
theorem dJ2_newBytesFor_77867_1 : decode cJ2_newBytesFor_77867 1 = .ok (.invokestatic 11, 3) := by decide +kernel
theorem dJ2_newBytesFor_77867_4 : decode cJ2_newBytesFor_77867 4 = .ok (.newarray .byte, 2) := by decide +kernel
theorem dJ2_newBytesFor_77867_6 : decode cJ2_newBytesFor_77867 6 = .ok (.areturn, 1) := by decide +kernel
theorem dJ2_newBytesLength_0f7a4_0 : decode cJ2_newBytesLength_0f7a4 0 = .ok (.iload_n 0, 1) := by decide +kernel
theorem dJ2_newBytesLength_0f7a4_1 : decode cJ2_newBytesLength_0f7a4 1 = .ok (.ifCond .ge 11, 3) := by decide +kernel
theorem dJ2_newBytesLength_0f7a4_4 : decode cJ2_newBytesLength_0f7a4 4 = .ok (.new 17, 3) := by decide +kernel
theorem dJ2_newBytesLength_0f7a4_7 : decode cJ2_newBytesLength_0f7a4 7 = .ok (.dup, 1) := by decide +kernel
theorem dJ2_newBytesLength_0f7a4_8 : decode cJ2_newBytesLength_0f7a4 8 = .ok (.invokespecial 19, 3) := by decide +kernel
theorem dJ2_newBytesLength_0f7a4_11 : decode cJ2_newBytesLength_0f7a4 11 = .ok (.athrow, 1) := by decide +kernel
theorem dJ2_newBytesLength_0f7a4_12 : decode cJ2_newBytesLength_0f7a4 12 = .ok (.iload_n 0, 1) := by decide +kernel
theorem dJ2_newBytesLength_0f7a4_13 : decode cJ2_newBytesLength_0f7a4 13 = .ok (.ldc 20, 2) := by decide +kernel
theorem dJ2_newBytesLength_0f7a4_15 : decode cJ2_newBytesLength_0f7a4 15 = .ok (.if_icmp .lt 40, 3) := by decide +kernel
theorem dJ2_newBytesLength_0f7a4_18 : decode cJ2_newBytesLength_0f7a4 18 = .ok (.new 21, 3) := by decide +kernel
theorem dJ2_newBytesLength_0f7a4_21 : decode cJ2_newBytesLength_0f7a4 21 = .ok (.dup, 1) := by decide +kernel
theorem dJ2_newBytesLength_0f7a4_22 : decode cJ2_newBytesLength_0f7a4 22 = .ok (.new 23, 3) := by decide +kernel
theorem dJ2_newBytesLength_0f7a4_25 : decode cJ2_newBytesLength_0f7a4 25 = .ok (.dup, 1) := by decide +kernel
theorem dJ2_newBytesLength_0f7a4_26 : decode cJ2_newBytesLength_0f7a4 26 = .ok (.invokespecial 25, 3) := by decide +kernel
theorem dJ2_newBytesLength_0f7a4_29 : decode cJ2_newBytesLength_0f7a4 29 = .ok (.ldc 26, 2) := by decide +kernel
theorem dJ2_newBytesLength_0f7a4_31 : decode cJ2_newBytesLength_0f7a4 31 = .ok (.invokevirtual 28, 3) := by decide +kernel
theorem dJ2_newBytesLength_0f7a4_34 : decode cJ2_newBytesLength_0f7a4 34 = .ok (.iload_n 0, 1) := by decide +kernel
theorem dJ2_newBytesLength_0f7a4_35 : decode cJ2_newBytesLength_0f7a4 35 = .ok (.invokevirtual 32, 3) := by decide +kernel
theorem dJ2_newBytesLength_0f7a4_38 : decode cJ2_newBytesLength_0f7a4 38 = .ok (.ldc 35, 2) := by decide +kernel
theorem dJ2_newBytesLength_0f7a4_40 : decode cJ2_newBytesLength_0f7a4 40 = .ok (.invokevirtual 28, 3) := by decide +kernel
theorem dJ2_newBytesLength_0f7a4_43 : decode cJ2_newBytesLength_0f7a4 43 = .ok (.ldc 20, 2) := by decide +kernel
theorem dJ2_newBytesLength_0f7a4_45 : decode cJ2_newBytesLength_0f7a4 45 = .ok (.invokevirtual 32, 3) := by decide +kernel
theorem dJ2_newBytesLength_0f7a4_48 : decode cJ2_newBytesLength_0f7a4 48 = .ok (.invokevirtual 37, 3) := by decide +kernel
theorem dJ2_newBytesLength_0f7a4_51 : decode cJ2_newBytesLength_0f7a4 51 = .ok (.invokespecial 41, 3) := by decide +kernel
theorem dJ2_newBytesLength_0f7a4_54 : decode cJ2_newBytesLength_0f7a4 54 = .ok (.athrow, 1) := by decide +kernel
theorem dJ2_newBytesLength_0f7a4_55 : decode cJ2_newBytesLength_0f7a4 55 = .ok (.iload_n 0, 1) := by decide +kernel
theorem dJ2_newBytesLength_0f7a4_56 : decode cJ2_newBytesLength_0f7a4 56 = .ok (.iconst 1, 1) := by decide +kernel
theorem dJ2_newBytesLength_0f7a4_57 : decode cJ2_newBytesLength_0f7a4 57 = .ok (.ishl, 1) := by decide +kernel
theorem dJ2_newBytesLength_0f7a4_58 : decode cJ2_newBytesLength_0f7a4 58 = .ok (.ireturn, 1) := by decide +kernel
theorem dJ2_putChar_b72d1_0 : decode cJ2_putChar_b72d1 0 = .ok (.getstatic 44, 3) := by decide +kernel
theorem dJ2_putChar_b72d1_3 : decode cJ2_putChar_b72d1 3 = .ok (.ifCond .ne 25, 3) := by decide +kernel
theorem dJ2_putChar_b72d1_6 : decode cJ2_putChar_b72d1 6 = .ok (.iload_n 1, 1) := by decide +kernel
theorem dJ2_putChar_b72d1_7 : decode cJ2_putChar_b72d1 7 = .ok (.ifCond .lt 11, 3) := by decide +kernel
theorem dJ2_putChar_b72d1_10 : decode cJ2_putChar_b72d1 10 = .ok (.iload_n 1, 1) := by decide +kernel
theorem dJ2_putChar_b72d1_11 : decode cJ2_putChar_b72d1 11 = .ok (.aload_n 0, 1) := by decide +kernel
theorem dJ2_putChar_b72d1_12 : decode cJ2_putChar_b72d1 12 = .ok (.invokestatic 48, 3) := by decide +kernel
theorem dJ2_putChar_b72d1_15 : decode cJ2_putChar_b72d1 15 = .ok (.if_icmp .lt 13, 3) := by decide +kernel
theorem dJ2_putChar_b72d1_18 : decode cJ2_putChar_b72d1 18 = .ok (.new 52, 3) := by decide +kernel
theorem dJ2_putChar_b72d1_21 : decode cJ2_putChar_b72d1 21 = .ok (.dup, 1) := by decide +kernel
theorem dJ2_putChar_b72d1_22 : decode cJ2_putChar_b72d1 22 = .ok (.ldc 54, 2) := by decide +kernel
theorem dJ2_putChar_b72d1_24 : decode cJ2_putChar_b72d1 24 = .ok (.invokespecial 56, 3) := by decide +kernel
theorem dJ2_putChar_b72d1_27 : decode cJ2_putChar_b72d1 27 = .ok (.athrow, 1) := by decide +kernel
theorem dJ2_putChar_b72d1_28 : decode cJ2_putChar_b72d1 28 = .ok (.iload_n 1, 1) := by decide +kernel
theorem dJ2_putChar_b72d1_29 : decode cJ2_putChar_b72d1 29 = .ok (.iconst 1, 1) := by decide +kernel
theorem dJ2_putChar_b72d1_30 : decode cJ2_putChar_b72d1 30 = .ok (.ishl, 1) := by decide +kernel
theorem dJ2_putChar_b72d1_31 : decode cJ2_putChar_b72d1 31 = .ok (.istore_n 1, 1) := by decide +kernel
theorem dJ2_putChar_b72d1_32 : decode cJ2_putChar_b72d1 32 = .ok (.aload_n 0, 1) := by decide +kernel
theorem dJ2_putChar_b72d1_33 : decode cJ2_putChar_b72d1 33 = .ok (.iload_n 1, 1) := by decide +kernel
theorem dJ2_putChar_b72d1_34 : decode cJ2_putChar_b72d1 34 = .ok (.iinc 1 1, 3) := by decide +kernel
theorem dJ2_putChar_b72d1_37 : decode cJ2_putChar_b72d1 37 = .ok (.iload_n 2, 1) := by decide +kernel
theorem dJ2_putChar_b72d1_38 : decode cJ2_putChar_b72d1 38 = .ok (.getstatic 59, 3) := by decide +kernel
theorem dJ2_putChar_b72d1_41 : decode cJ2_putChar_b72d1 41 = .ok (.ishr, 1) := by decide +kernel
theorem dJ2_putChar_b72d1_42 : decode cJ2_putChar_b72d1 42 = .ok (.i2b, 1) := by decide +kernel
theorem dJ2_putChar_b72d1_43 : decode cJ2_putChar_b72d1 43 = .ok (.bastore, 1) := by decide +kernel
theorem dJ2_putChar_b72d1_44 : decode cJ2_putChar_b72d1 44 = .ok (.aload_n 0, 1) := by decide +kernel
theorem dJ2_putChar_b72d1_45 : decode cJ2_putChar_b72d1 45 = .ok (.iload_n 1, 1) := by decide +kernel
theorem dJ2_putChar_b72d1_46 : decode cJ2_putChar_b72d1 46 = .ok (.iload_n 2, 1) := by decide +kernel
theorem dJ2_putChar_b72d1_47 : decode cJ2_putChar_b72d1 47 = .ok (.getstatic 63, 3) := by decide +kernel
theorem dJ2_putChar_b72d1_50 : decode cJ2_putChar_b72d1 50 = .ok (.ishr, 1) := by decide +kernel
theorem dJ2_putChar_b72d1_51 : decode cJ2_putChar_b72d1 51 = .ok (.i2b, 1) := by decide +kernel
theorem dJ2_putChar_b72d1_52 : decode cJ2_putChar_b72d1 52 = .ok (.bastore, 1) := by decide +kernel
theorem dJ2_putChar_b72d1_53 : decode cJ2_putChar_b72d1 53 = .ok (.return_, 1) := by decide +kernel
theorem dJ2_getChar_3b067_0 : decode cJ2_getChar_3b067 0 = .ok (.getstatic 44, 3) := by decide +kernel
theorem dJ2_getChar_3b067_3 : decode cJ2_getChar_3b067 3 = .ok (.ifCond .ne 25, 3) := by decide +kernel
theorem dJ2_getChar_3b067_6 : decode cJ2_getChar_3b067 6 = .ok (.iload_n 1, 1) := by decide +kernel
theorem dJ2_getChar_3b067_7 : decode cJ2_getChar_3b067 7 = .ok (.ifCond .lt 11, 3) := by decide +kernel
theorem dJ2_getChar_3b067_10 : decode cJ2_getChar_3b067 10 = .ok (.iload_n 1, 1) := by decide +kernel
theorem dJ2_getChar_3b067_11 : decode cJ2_getChar_3b067 11 = .ok (.aload_n 0, 1) := by decide +kernel
theorem dJ2_getChar_3b067_12 : decode cJ2_getChar_3b067 12 = .ok (.invokestatic 48, 3) := by decide +kernel
theorem dJ2_getChar_3b067_15 : decode cJ2_getChar_3b067 15 = .ok (.if_icmp .lt 13, 3) := by decide +kernel
theorem dJ2_getChar_3b067_18 : decode cJ2_getChar_3b067 18 = .ok (.new 52, 3) := by decide +kernel
theorem dJ2_getChar_3b067_21 : decode cJ2_getChar_3b067 21 = .ok (.dup, 1) := by decide +kernel
theorem dJ2_getChar_3b067_22 : decode cJ2_getChar_3b067 22 = .ok (.ldc 54, 2) := by decide +kernel
theorem dJ2_getChar_3b067_24 : decode cJ2_getChar_3b067 24 = .ok (.invokespecial 56, 3) := by decide +kernel
theorem dJ2_getChar_3b067_27 : decode cJ2_getChar_3b067 27 = .ok (.athrow, 1) := by decide +kernel
theorem dJ2_getChar_3b067_28 : decode cJ2_getChar_3b067 28 = .ok (.iload_n 1, 1) := by decide +kernel
theorem dJ2_getChar_3b067_29 : decode cJ2_getChar_3b067 29 = .ok (.iconst 1, 1) := by decide +kernel
theorem dJ2_getChar_3b067_30 : decode cJ2_getChar_3b067 30 = .ok (.ishl, 1) := by decide +kernel
theorem dJ2_getChar_3b067_31 : decode cJ2_getChar_3b067 31 = .ok (.istore_n 1, 1) := by decide +kernel
theorem dJ2_getChar_3b067_32 : decode cJ2_getChar_3b067 32 = .ok (.aload_n 0, 1) := by decide +kernel
theorem dJ2_getChar_3b067_33 : decode cJ2_getChar_3b067 33 = .ok (.iload_n 1, 1) := by decide +kernel
theorem dJ2_getChar_3b067_34 : decode cJ2_getChar_3b067 34 = .ok (.iinc 1 1, 3) := by decide +kernel
theorem dJ2_getChar_3b067_37 : decode cJ2_getChar_3b067 37 = .ok (.baload, 1) := by decide +kernel
theorem dJ2_getChar_3b067_38 : decode cJ2_getChar_3b067 38 = .ok (.sipush 255, 3) := by decide +kernel
theorem dJ2_getChar_3b067_41 : decode cJ2_getChar_3b067 41 = .ok (.iand, 1) := by decide +kernel
theorem dJ2_getChar_3b067_42 : decode cJ2_getChar_3b067 42 = .ok (.getstatic 59, 3) := by decide +kernel
theorem dJ2_getChar_3b067_45 : decode cJ2_getChar_3b067 45 = .ok (.ishl, 1) := by decide +kernel
theorem dJ2_getChar_3b067_46 : decode cJ2_getChar_3b067 46 = .ok (.aload_n 0, 1) := by decide +kernel
theorem dJ2_getChar_3b067_47 : decode cJ2_getChar_3b067 47 = .ok (.iload_n 1, 1) := by decide +kernel
theorem dJ2_getChar_3b067_48 : decode cJ2_getChar_3b067 48 = .ok (.baload, 1) := by decide +kernel
theorem dJ2_getChar_3b067_49 : decode cJ2_getChar_3b067 49 = .ok (.sipush 255, 3) := by decide +kernel
theorem dJ2_getChar_3b067_52 : decode cJ2_getChar_3b067 52 = .ok (.iand, 1) := by decide +kernel
theorem dJ2_getChar_3b067_53 : decode cJ2_getChar_3b067 53 = .ok (.getstatic 63, 3) := by decide +kernel
theorem dJ2_getChar_3b067_56 : decode cJ2_getChar_3b067 56 = .ok (.ishl, 1) := by decide +kernel
theorem dJ2_getChar_3b067_57 : decode cJ2_getChar_3b067 57 = .ok (.ior, 1) := by decide +kernel
theorem dJ2_getChar_3b067_58 : decode cJ2_getChar_3b067 58 = .ok (.i2c, 1) := by decide +kernel
theorem dJ2_getChar_3b067_59 : decode cJ2_getChar_3b067 59 = .ok (.ireturn, 1) := by decide +kernel
theorem dJ2_length_9d52b_0 : decode cJ2_length_9d52b 0 = .ok (.aload_n 0, 1) := by decide +kernel
theorem dJ2_length_9d52b_1 : decode cJ2_length_9d52b 1 = .ok (.arraylength, 1) := by decide +kernel
theorem dJ2_length_9d52b_2 : decode cJ2_length_9d52b 2 = .ok (.iconst 1, 1) := by decide +kernel
theorem dJ2_length_9d52b_3 : decode cJ2_length_9d52b 3 = .ok (.ishr, 1) := by decide +kernel
theorem dJ2_length_9d52b_4 : decode cJ2_length_9d52b 4 = .ok (.ireturn, 1) := by decide +kernel
theorem dJ2_coderFromArrayLen_85cad_0 : decode cJ2_coderFromArrayLen_85cad 0 = .ok (.iload_n 1, 1) := by decide +kernel
theorem dJ2_coderFromArrayLen_85cad_1 : decode cJ2_coderFromArrayLen_85cad 1 = .ok (.aload_n 0, 1) := by decide +kernel
theorem dJ2_coderFromArrayLen_85cad_2 : decode cJ2_coderFromArrayLen_85cad 2 = .ok (.arraylength, 1) := by decide +kernel
theorem dJ2_coderFromArrayLen_85cad_3 : decode cJ2_coderFromArrayLen_85cad 3 = .ok (.isub, 1) := by decide +kernel
theorem dJ2_coderFromArrayLen_85cad_4 : decode cJ2_coderFromArrayLen_85cad 4 = .ok (.bipush 31, 2) := by decide +kernel
theorem dJ2_coderFromArrayLen_85cad_6 : decode cJ2_coderFromArrayLen_85cad 6 = .ok (.iushr, 1) := by decide +kernel
theorem dJ2_coderFromArrayLen_85cad_7 : decode cJ2_coderFromArrayLen_85cad 7 = .ok (.i2b, 1) := by decide +kernel
theorem dJ2_coderFromArrayLen_85cad_8 : decode cJ2_coderFromArrayLen_85cad 8 = .ok (.ireturn, 1) := by decide +kernel
theorem dJ2_compress_39247_0 : decode cJ2_compress_39247 0 = .ok (.iload_n 2, 1) := by decide +kernel
theorem dJ2_compress_39247_1 : decode cJ2_compress_39247 1 = .ok (.newarray .byte, 2) := by decide +kernel
theorem dJ2_compress_39247_3 : decode cJ2_compress_39247 3 = .ok (.astore_n 3, 1) := by decide +kernel
theorem dJ2_compress_39247_4 : decode cJ2_compress_39247 4 = .ok (.aload_n 0, 1) := by decide +kernel
theorem dJ2_compress_39247_5 : decode cJ2_compress_39247 5 = .ok (.iload_n 1, 1) := by decide +kernel
theorem dJ2_compress_39247_6 : decode cJ2_compress_39247 6 = .ok (.aload_n 3, 1) := by decide +kernel
theorem dJ2_compress_39247_7 : decode cJ2_compress_39247 7 = .ok (.iconst 0, 1) := by decide +kernel
theorem dJ2_compress_39247_8 : decode cJ2_compress_39247 8 = .ok (.iload_n 2, 1) := by decide +kernel
theorem dJ2_compress_39247_9 : decode cJ2_compress_39247 9 = .ok (.invokestatic 123, 3) := by decide +kernel
theorem dJ2_compress_39247_12 : decode cJ2_compress_39247 12 = .ok (.istore 4, 2) := by decide +kernel
theorem dJ2_compress_39247_14 : decode cJ2_compress_39247 14 = .ok (.iload 4, 2) := by decide +kernel
theorem dJ2_compress_39247_16 : decode cJ2_compress_39247 16 = .ok (.iload_n 2, 1) := by decide +kernel
theorem dJ2_compress_39247_17 : decode cJ2_compress_39247 17 = .ok (.if_icmp .eq 47, 3) := by decide +kernel
theorem dJ2_compress_39247_20 : decode cJ2_compress_39247 20 = .ok (.aload_n 0, 1) := by decide +kernel
theorem dJ2_compress_39247_21 : decode cJ2_compress_39247 21 = .ok (.iload_n 1, 1) := by decide +kernel
theorem dJ2_compress_39247_22 : decode cJ2_compress_39247 22 = .ok (.iconst 1, 1) := by decide +kernel
theorem dJ2_compress_39247_23 : decode cJ2_compress_39247 23 = .ok (.ishl, 1) := by decide +kernel
theorem dJ2_compress_39247_24 : decode cJ2_compress_39247 24 = .ok (.iload_n 1, 1) := by decide +kernel
theorem dJ2_compress_39247_25 : decode cJ2_compress_39247 25 = .ok (.iload_n 2, 1) := by decide +kernel
theorem dJ2_compress_39247_26 : decode cJ2_compress_39247 26 = .ok (.iadd, 1) := by decide +kernel
theorem dJ2_compress_39247_27 : decode cJ2_compress_39247 27 = .ok (.invokestatic 11, 3) := by decide +kernel
theorem dJ2_compress_39247_30 : decode cJ2_compress_39247 30 = .ok (.invokestatic 126, 3) := by decide +kernel
theorem dJ2_compress_39247_33 : decode cJ2_compress_39247 33 = .ok (.astore 5, 2) := by decide +kernel
theorem dJ2_compress_39247_35 : decode cJ2_compress_39247 35 = .ok (.aload 5, 2) := by decide +kernel
theorem dJ2_compress_39247_37 : decode cJ2_compress_39247 37 = .ok (.iload 4, 2) := by decide +kernel
theorem dJ2_compress_39247_39 : decode cJ2_compress_39247 39 = .ok (.invokestatic 71, 3) := by decide +kernel
theorem dJ2_compress_39247_42 : decode cJ2_compress_39247 42 = .ok (.sipush 255, 3) := by decide +kernel
theorem dJ2_compress_39247_45 : decode cJ2_compress_39247 45 = .ok (.if_icmp .gt 16, 3) := by decide +kernel
theorem dJ2_compress_39247_48 : decode cJ2_compress_39247 48 = .ok (.aload 5, 2) := by decide +kernel
theorem dJ2_compress_39247_50 : decode cJ2_compress_39247 50 = .ok (.iconst 0, 1) := by decide +kernel
theorem dJ2_compress_39247_51 : decode cJ2_compress_39247 51 = .ok (.aload_n 3, 1) := by decide +kernel
theorem dJ2_compress_39247_52 : decode cJ2_compress_39247 52 = .ok (.iconst 0, 1) := by decide +kernel
theorem dJ2_compress_39247_53 : decode cJ2_compress_39247 53 = .ok (.iload_n 2, 1) := by decide +kernel
theorem dJ2_compress_39247_54 : decode cJ2_compress_39247 54 = .ok (.invokestatic 123, 3) := by decide +kernel
theorem dJ2_compress_39247_57 : decode cJ2_compress_39247 57 = .ok (.iload_n 2, 1) := by decide +kernel
theorem dJ2_compress_39247_58 : decode cJ2_compress_39247 58 = .ok (.if_icmp .eq 6, 3) := by decide +kernel
theorem dJ2_compress_39247_61 : decode cJ2_compress_39247 61 = .ok (.aload 5, 2) := by decide +kernel
theorem dJ2_compress_39247_63 : decode cJ2_compress_39247 63 = .ok (.areturn, 1) := by decide +kernel
theorem dJ2_compress_39247_64 : decode cJ2_compress_39247 64 = .ok (.aload_n 3, 1) := by decide +kernel
theorem dJ2_compress_39247_65 : decode cJ2_compress_39247 65 = .ok (.areturn, 1) := by decide +kernel
theorem dJ2_compress_5af95_0 : decode cJ2_compress_5af95 0 = .ok (.iload_n 1, 1) := by decide +kernel
theorem dJ2_compress_5af95_1 : decode cJ2_compress_5af95 1 = .ok (.iload 4, 2) := by decide +kernel
theorem dJ2_compress_5af95_3 : decode cJ2_compress_5af95 3 = .ok (.aload_n 0, 1) := by decide +kernel
theorem dJ2_compress_5af95_4 : decode cJ2_compress_5af95 4 = .ok (.invokestatic 173, 3) := by decide +kernel
theorem dJ2_compress_5af95_7 : decode cJ2_compress_5af95 7 = .ok (.iconst 0, 1) := by decide +kernel
theorem dJ2_compress_5af95_8 : decode cJ2_compress_5af95 8 = .ok (.istore 5, 2) := by decide +kernel
theorem dJ2_compress_5af95_10 : decode cJ2_compress_5af95 10 = .ok (.iload 5, 2) := by decide +kernel
theorem dJ2_compress_5af95_12 : decode cJ2_compress_5af95 12 = .ok (.iload 4, 2) := by decide +kernel
theorem dJ2_compress_5af95_14 : decode cJ2_compress_5af95 14 = .ok (.if_icmp .ge 39, 3) := by decide +kernel
theorem dJ2_compress_5af95_17 : decode cJ2_compress_5af95 17 = .ok (.aload_n 0, 1) := by decide +kernel
theorem dJ2_compress_5af95_18 : decode cJ2_compress_5af95 18 = .ok (.iload_n 1, 1) := by decide +kernel
theorem dJ2_compress_5af95_19 : decode cJ2_compress_5af95 19 = .ok (.invokestatic 71, 3) := by decide +kernel
theorem dJ2_compress_5af95_22 : decode cJ2_compress_5af95 22 = .ok (.istore 6, 2) := by decide +kernel
theorem dJ2_compress_5af95_24 : decode cJ2_compress_5af95 24 = .ok (.iload 6, 2) := by decide +kernel
theorem dJ2_compress_5af95_26 : decode cJ2_compress_5af95 26 = .ok (.sipush 255, 3) := by decide +kernel
theorem dJ2_compress_5af95_29 : decode cJ2_compress_5af95 29 = .ok (.if_icmp .le 6, 3) := by decide +kernel
theorem dJ2_compress_5af95_32 : decode cJ2_compress_5af95 32 = .ok (.iload 5, 2) := by decide +kernel
theorem dJ2_compress_5af95_34 : decode cJ2_compress_5af95 34 = .ok (.ireturn, 1) := by decide +kernel
theorem dJ2_compress_5af95_35 : decode cJ2_compress_5af95 35 = .ok (.aload_n 2, 1) := by decide +kernel
theorem dJ2_compress_5af95_36 : decode cJ2_compress_5af95 36 = .ok (.iload_n 3, 1) := by decide +kernel
theorem dJ2_compress_5af95_37 : decode cJ2_compress_5af95 37 = .ok (.iload 6, 2) := by decide +kernel
theorem dJ2_compress_5af95_39 : decode cJ2_compress_5af95 39 = .ok (.i2b, 1) := by decide +kernel
theorem dJ2_compress_5af95_40 : decode cJ2_compress_5af95 40 = .ok (.bastore, 1) := by decide +kernel
theorem dJ2_compress_5af95_41 : decode cJ2_compress_5af95 41 = .ok (.iinc 1 1, 3) := by decide +kernel
theorem dJ2_compress_5af95_44 : decode cJ2_compress_5af95 44 = .ok (.iinc 3 1, 3) := by decide +kernel
theorem dJ2_compress_5af95_47 : decode cJ2_compress_5af95 47 = .ok (.iinc 5 1, 3) := by decide +kernel
theorem dJ2_compress_5af95_50 : decode cJ2_compress_5af95 50 = .ok (.goto (-40), 3) := by decide +kernel
theorem dJ2_compress_5af95_53 : decode cJ2_compress_5af95 53 = .ok (.iload 4, 2) := by decide +kernel
theorem dJ2_compress_5af95_55 : decode cJ2_compress_5af95 55 = .ok (.ireturn, 1) := by decide +kernel
theorem dJ2_indexOf_4cfef_0 : decode cJ2_indexOf_4cfef 0 = .ok (.iload_n 2, 1) := by decide +kernel
theorem dJ2_indexOf_4cfef_1 : decode cJ2_indexOf_4cfef 1 = .ok (.iconst 0, 1) := by decide +kernel
theorem dJ2_indexOf_4cfef_2 : decode cJ2_indexOf_4cfef 2 = .ok (.invokestatic 224, 3) := by decide +kernel
theorem dJ2_indexOf_4cfef_5 : decode cJ2_indexOf_4cfef 5 = .ok (.istore_n 2, 1) := by decide +kernel
theorem dJ2_indexOf_4cfef_6 : decode cJ2_indexOf_4cfef 6 = .ok (.iload_n 3, 1) := by decide +kernel
theorem dJ2_indexOf_4cfef_7 : decode cJ2_indexOf_4cfef 7 = .ok (.aload_n 0, 1) := by decide +kernel
theorem dJ2_indexOf_4cfef_8 : decode cJ2_indexOf_4cfef 8 = .ok (.arraylength, 1) := by decide +kernel
theorem dJ2_indexOf_4cfef_9 : decode cJ2_indexOf_4cfef 9 = .ok (.iconst 1, 1) := by decide +kernel
theorem dJ2_indexOf_4cfef_10 : decode cJ2_indexOf_4cfef 10 = .ok (.ishr, 1) := by decide +kernel
theorem dJ2_indexOf_4cfef_11 : decode cJ2_indexOf_4cfef 11 = .ok (.invokestatic 183, 3) := by decide +kernel
theorem dJ2_indexOf_4cfef_14 : decode cJ2_indexOf_4cfef 14 = .ok (.istore_n 3, 1) := by decide +kernel
theorem dJ2_indexOf_4cfef_15 : decode cJ2_indexOf_4cfef 15 = .ok (.iload_n 2, 1) := by decide +kernel
theorem dJ2_indexOf_4cfef_16 : decode cJ2_indexOf_4cfef 16 = .ok (.iload_n 3, 1) := by decide +kernel
theorem dJ2_indexOf_4cfef_17 : decode cJ2_indexOf_4cfef 17 = .ok (.if_icmp .lt 5, 3) := by decide +kernel
theorem dJ2_indexOf_4cfef_20 : decode cJ2_indexOf_4cfef 20 = .ok (.iconst (-1), 1) := by decide +kernel
theorem dJ2_indexOf_4cfef_21 : decode cJ2_indexOf_4cfef 21 = .ok (.ireturn, 1) := by decide +kernel
theorem dJ2_indexOf_4cfef_22 : decode cJ2_indexOf_4cfef 22 = .ok (.iload_n 1, 1) := by decide +kernel
theorem dJ2_indexOf_4cfef_23 : decode cJ2_indexOf_4cfef 23 = .ok (.ldc 227, 2) := by decide +kernel
theorem dJ2_indexOf_4cfef_25 : decode cJ2_indexOf_4cfef 25 = .ok (.if_icmp .ge 11, 3) := by decide +kernel
theorem dJ2_indexOf_4cfef_28 : decode cJ2_indexOf_4cfef 28 = .ok (.aload_n 0, 1) := by decide +kernel
theorem dJ2_indexOf_4cfef_29 : decode cJ2_indexOf_4cfef 29 = .ok (.iload_n 1, 1) := by decide +kernel
theorem dJ2_indexOf_4cfef_30 : decode cJ2_indexOf_4cfef 30 = .ok (.iload_n 2, 1) := by decide +kernel
theorem dJ2_indexOf_4cfef_31 : decode cJ2_indexOf_4cfef 31 = .ok (.iload_n 3, 1) := by decide +kernel
theorem dJ2_indexOf_4cfef_32 : decode cJ2_indexOf_4cfef 32 = .ok (.invokestatic 228, 3) := by decide +kernel
theorem dJ2_indexOf_4cfef_35 : decode cJ2_indexOf_4cfef 35 = .ok (.ireturn, 1) := by decide +kernel
theorem dJ2_indexOf_4cfef_36 : decode cJ2_indexOf_4cfef 36 = .ok (.aload_n 0, 1) := by decide +kernel
theorem dJ2_indexOf_4cfef_37 : decode cJ2_indexOf_4cfef 37 = .ok (.iload_n 1, 1) := by decide +kernel
theorem dJ2_indexOf_4cfef_38 : decode cJ2_indexOf_4cfef 38 = .ok (.iload_n 2, 1) := by decide +kernel
theorem dJ2_indexOf_4cfef_39 : decode cJ2_indexOf_4cfef 39 = .ok (.iload_n 3, 1) := by decide +kernel
theorem dJ2_indexOf_4cfef_40 : decode cJ2_indexOf_4cfef 40 = .ok (.invokestatic 232, 3) := by decide +kernel
theorem dJ2_indexOf_4cfef_43 : decode cJ2_indexOf_4cfef 43 = .ok (.ireturn, 1) := by decide +kernel
theorem dJ2_indexOfChar_4cfef_0 : decode cJ2_indexOfChar_4cfef 0 = .ok (.iload_n 2, 1) := by decide +kernel
theorem dJ2_indexOfChar_4cfef_1 : decode cJ2_indexOfChar_4cfef 1 = .ok (.iload_n 3, 1) := by decide +kernel
theorem dJ2_indexOfChar_4cfef_2 : decode cJ2_indexOfChar_4cfef 2 = .ok (.aload_n 0, 1) := by decide +kernel
theorem dJ2_indexOfChar_4cfef_3 : decode cJ2_indexOfChar_4cfef 3 = .ok (.invokestatic 96, 3) := by decide +kernel
theorem dJ2_indexOfChar_4cfef_6 : decode cJ2_indexOfChar_4cfef 6 = .ok (.aload_n 0, 1) := by decide +kernel
theorem dJ2_indexOfChar_4cfef_7 : decode cJ2_indexOfChar_4cfef 7 = .ok (.iload_n 1, 1) := by decide +kernel
theorem dJ2_indexOfChar_4cfef_8 : decode cJ2_indexOfChar_4cfef 8 = .ok (.iload_n 2, 1) := by decide +kernel
theorem dJ2_indexOfChar_4cfef_9 : decode cJ2_indexOfChar_4cfef 9 = .ok (.iload_n 3, 1) := by decide +kernel
theorem dJ2_indexOfChar_4cfef_10 : decode cJ2_indexOfChar_4cfef 10 = .ok (.invokestatic 244, 3) := by decide +kernel
theorem dJ2_indexOfChar_4cfef_13 : decode cJ2_indexOfChar_4cfef 13 = .ok (.ireturn, 1) := by decide +kernel
theorem dJ2_indexOfCharUnsafe_4cfef_0 : decode cJ2_indexOfCharUnsafe_4cfef 0 = .ok (.iload_n 2, 1) := by decide +kernel
theorem dJ2_indexOfCharUnsafe_4cfef_1 : decode cJ2_indexOfCharUnsafe_4cfef 1 = .ok (.istore 4, 2) := by decide +kernel
theorem dJ2_indexOfCharUnsafe_4cfef_3 : decode cJ2_indexOfCharUnsafe_4cfef 3 = .ok (.iload 4, 2) := by decide +kernel
theorem dJ2_indexOfCharUnsafe_4cfef_5 : decode cJ2_indexOfCharUnsafe_4cfef 5 = .ok (.iload_n 3, 1) := by decide +kernel
theorem dJ2_indexOfCharUnsafe_4cfef_6 : decode cJ2_indexOfCharUnsafe_4cfef 6 = .ok (.if_icmp .ge 22, 3) := by decide +kernel
theorem dJ2_indexOfCharUnsafe_4cfef_9 : decode cJ2_indexOfCharUnsafe_4cfef 9 = .ok (.aload_n 0, 1) := by decide +kernel
theorem dJ2_indexOfCharUnsafe_4cfef_10 : decode cJ2_indexOfCharUnsafe_4cfef 10 = .ok (.iload 4, 2) := by decide +kernel
theorem dJ2_indexOfCharUnsafe_4cfef_12 : decode cJ2_indexOfCharUnsafe_4cfef 12 = .ok (.invokestatic 71, 3) := by decide +kernel
theorem dJ2_indexOfCharUnsafe_4cfef_15 : decode cJ2_indexOfCharUnsafe_4cfef 15 = .ok (.iload_n 1, 1) := by decide +kernel
theorem dJ2_indexOfCharUnsafe_4cfef_16 : decode cJ2_indexOfCharUnsafe_4cfef 16 = .ok (.if_icmp .ne 6, 3) := by decide +kernel
theorem dJ2_indexOfCharUnsafe_4cfef_19 : decode cJ2_indexOfCharUnsafe_4cfef 19 = .ok (.iload 4, 2) := by decide +kernel
theorem dJ2_indexOfCharUnsafe_4cfef_21 : decode cJ2_indexOfCharUnsafe_4cfef 21 = .ok (.ireturn, 1) := by decide +kernel
theorem dJ2_indexOfCharUnsafe_4cfef_22 : decode cJ2_indexOfCharUnsafe_4cfef 22 = .ok (.iinc 4 1, 3) := by decide +kernel
theorem dJ2_indexOfCharUnsafe_4cfef_25 : decode cJ2_indexOfCharUnsafe_4cfef 25 = .ok (.goto (-22), 3) := by decide +kernel
theorem dJ2_indexOfCharUnsafe_4cfef_28 : decode cJ2_indexOfCharUnsafe_4cfef 28 = .ok (.iconst (-1), 1) := by decide +kernel
theorem dJ2_indexOfCharUnsafe_4cfef_29 : decode cJ2_indexOfCharUnsafe_4cfef 29 = .ok (.ireturn, 1) := by decide +kernel
theorem dJ2_indexOfSupplementary_4cfef_0 : decode cJ2_indexOfSupplementary_4cfef 0 = .ok (.iload_n 1, 1) := by decide +kernel
theorem dJ2_indexOfSupplementary_4cfef_1 : decode cJ2_indexOfSupplementary_4cfef 1 = .ok (.invokestatic 164, 3) := by decide +kernel
theorem dJ2_indexOfSupplementary_4cfef_4 : decode cJ2_indexOfSupplementary_4cfef 4 = .ok (.ifCond .eq 65, 3) := by decide +kernel
theorem dJ2_indexOfSupplementary_4cfef_7 : decode cJ2_indexOfSupplementary_4cfef 7 = .ok (.iload_n 1, 1) := by decide +kernel
theorem dJ2_indexOfSupplementary_4cfef_8 : decode cJ2_indexOfSupplementary_4cfef 8 = .ok (.invokestatic 157, 3) := by decide +kernel
theorem dJ2_indexOfSupplementary_4cfef_11 : decode cJ2_indexOfSupplementary_4cfef 11 = .ok (.istore 4, 2) := by decide +kernel
theorem dJ2_indexOfSupplementary_4cfef_13 : decode cJ2_indexOfSupplementary_4cfef 13 = .ok (.iload_n 1, 1) := by decide +kernel
theorem dJ2_indexOfSupplementary_4cfef_14 : decode cJ2_indexOfSupplementary_4cfef 14 = .ok (.invokestatic 161, 3) := by decide +kernel
theorem dJ2_indexOfSupplementary_4cfef_17 : decode cJ2_indexOfSupplementary_4cfef 17 = .ok (.istore 5, 2) := by decide +kernel
theorem dJ2_indexOfSupplementary_4cfef_19 : decode cJ2_indexOfSupplementary_4cfef 19 = .ok (.iload_n 2, 1) := by decide +kernel
theorem dJ2_indexOfSupplementary_4cfef_20 : decode cJ2_indexOfSupplementary_4cfef 20 = .ok (.iload_n 3, 1) := by decide +kernel
theorem dJ2_indexOfSupplementary_4cfef_21 : decode cJ2_indexOfSupplementary_4cfef 21 = .ok (.aload_n 0, 1) := by decide +kernel
theorem dJ2_indexOfSupplementary_4cfef_22 : decode cJ2_indexOfSupplementary_4cfef 22 = .ok (.invokestatic 96, 3) := by decide +kernel
theorem dJ2_indexOfSupplementary_4cfef_25 : decode cJ2_indexOfSupplementary_4cfef 25 = .ok (.iload_n 2, 1) := by decide +kernel
theorem dJ2_indexOfSupplementary_4cfef_26 : decode cJ2_indexOfSupplementary_4cfef 26 = .ok (.istore 6, 2) := by decide +kernel
theorem dJ2_indexOfSupplementary_4cfef_28 : decode cJ2_indexOfSupplementary_4cfef 28 = .ok (.iload 6, 2) := by decide +kernel
theorem dJ2_indexOfSupplementary_4cfef_30 : decode cJ2_indexOfSupplementary_4cfef 30 = .ok (.iload_n 3, 1) := by decide +kernel
theorem dJ2_indexOfSupplementary_4cfef_31 : decode cJ2_indexOfSupplementary_4cfef 31 = .ok (.iconst 1, 1) := by decide +kernel
theorem dJ2_indexOfSupplementary_4cfef_32 : decode cJ2_indexOfSupplementary_4cfef 32 = .ok (.isub, 1) := by decide +kernel
theorem dJ2_indexOfSupplementary_4cfef_33 : decode cJ2_indexOfSupplementary_4cfef 33 = .ok (.if_icmp .ge 36, 3) := by decide +kernel
theorem dJ2_indexOfSupplementary_4cfef_36 : decode cJ2_indexOfSupplementary_4cfef 36 = .ok (.aload_n 0, 1) := by decide +kernel
theorem dJ2_indexOfSupplementary_4cfef_37 : decode cJ2_indexOfSupplementary_4cfef 37 = .ok (.iload 6, 2) := by decide +kernel
theorem dJ2_indexOfSupplementary_4cfef_39 : decode cJ2_indexOfSupplementary_4cfef 39 = .ok (.invokestatic 71, 3) := by decide +kernel
theorem dJ2_indexOfSupplementary_4cfef_42 : decode cJ2_indexOfSupplementary_4cfef 42 = .ok (.iload 4, 2) := by decide +kernel
theorem dJ2_indexOfSupplementary_4cfef_44 : decode cJ2_indexOfSupplementary_4cfef 44 = .ok (.if_icmp .ne 19, 3) := by decide +kernel
theorem dJ2_indexOfSupplementary_4cfef_47 : decode cJ2_indexOfSupplementary_4cfef 47 = .ok (.aload_n 0, 1) := by decide +kernel
theorem dJ2_indexOfSupplementary_4cfef_48 : decode cJ2_indexOfSupplementary_4cfef 48 = .ok (.iload 6, 2) := by decide +kernel
theorem dJ2_indexOfSupplementary_4cfef_50 : decode cJ2_indexOfSupplementary_4cfef 50 = .ok (.iconst 1, 1) := by decide +kernel
theorem dJ2_indexOfSupplementary_4cfef_51 : decode cJ2_indexOfSupplementary_4cfef 51 = .ok (.iadd, 1) := by decide +kernel
theorem dJ2_indexOfSupplementary_4cfef_52 : decode cJ2_indexOfSupplementary_4cfef 52 = .ok (.invokestatic 71, 3) := by decide +kernel
theorem dJ2_indexOfSupplementary_4cfef_55 : decode cJ2_indexOfSupplementary_4cfef 55 = .ok (.iload 5, 2) := by decide +kernel
theorem dJ2_indexOfSupplementary_4cfef_57 : decode cJ2_indexOfSupplementary_4cfef 57 = .ok (.if_icmp .ne 6, 3) := by decide +kernel
theorem dJ2_indexOfSupplementary_4cfef_60 : decode cJ2_indexOfSupplementary_4cfef 60 = .ok (.iload 6, 2) := by decide +kernel
theorem dJ2_indexOfSupplementary_4cfef_62 : decode cJ2_indexOfSupplementary_4cfef 62 = .ok (.ireturn, 1) := by decide +kernel
theorem dJ2_indexOfSupplementary_4cfef_63 : decode cJ2_indexOfSupplementary_4cfef 63 = .ok (.iinc 6 1, 3) := by decide +kernel
theorem dJ2_indexOfSupplementary_4cfef_66 : decode cJ2_indexOfSupplementary_4cfef 66 = .ok (.goto (-38), 3) := by decide +kernel
theorem dJ2_indexOfSupplementary_4cfef_69 : decode cJ2_indexOfSupplementary_4cfef 69 = .ok (.iconst (-1), 1) := by decide +kernel
theorem dJ2_indexOfSupplementary_4cfef_70 : decode cJ2_indexOfSupplementary_4cfef 70 = .ok (.ireturn, 1) := by decide +kernel
theorem dJ2_getChars_46870_0 : decode cJ2_getChars_46870 0 = .ok (.iload_n 1, 1) := by decide +kernel
theorem dJ2_getChars_46870_1 : decode cJ2_getChars_46870 1 = .ok (.iload_n 2, 1) := by decide +kernel
theorem dJ2_getChars_46870_2 : decode cJ2_getChars_46870 2 = .ok (.aload_n 3, 1) := by decide +kernel
theorem dJ2_getChars_46870_3 : decode cJ2_getChars_46870 3 = .ok (.invokestatic 96, 3) := by decide +kernel
theorem dJ2_getChars_46870_6 : decode cJ2_getChars_46870 6 = .ok (.iload_n 0, 1) := by decide +kernel
theorem dJ2_getChars_46870_7 : decode cJ2_getChars_46870 7 = .ok (.iload_n 2, 1) := by decide +kernel
theorem dJ2_getChars_46870_8 : decode cJ2_getChars_46870 8 = .ok (.aload_n 3, 1) := by decide +kernel
theorem dJ2_getChars_46870_9 : decode cJ2_getChars_46870 9 = .ok (.invokestatic 393, 3) := by decide +kernel
theorem dJ2_getChars_46870_12 : decode cJ2_getChars_46870 12 = .ok (.istore 4, 2) := by decide +kernel
theorem dJ2_getChars_46870_14 : decode cJ2_getChars_46870 14 = .ok (.getstatic 44, 3) := by decide +kernel
theorem dJ2_getChars_46870_17 : decode cJ2_getChars_46870 17 = .ok (.ifCond .ne 17, 3) := by decide +kernel
theorem dJ2_getChars_46870_20 : decode cJ2_getChars_46870 20 = .ok (.iload_n 1, 1) := by decide +kernel
theorem dJ2_getChars_46870_21 : decode cJ2_getChars_46870 21 = .ok (.iload 4, 2) := by decide +kernel
theorem dJ2_getChars_46870_23 : decode cJ2_getChars_46870 23 = .ok (.if_icmp .eq 11, 3) := by decide +kernel
theorem dJ2_getChars_46870_26 : decode cJ2_getChars_46870 26 = .ok (.new 52, 3) := by decide +kernel
theorem dJ2_getChars_46870_29 : decode cJ2_getChars_46870 29 = .ok (.dup, 1) := by decide +kernel
theorem dJ2_getChars_46870_30 : decode cJ2_getChars_46870 30 = .ok (.invokespecial 66, 3) := by decide +kernel
theorem dJ2_getChars_46870_33 : decode cJ2_getChars_46870 33 = .ok (.athrow, 1) := by decide +kernel
theorem dJ2_getChars_46870_34 : decode cJ2_getChars_46870 34 = .ok (.iload 4, 2) := by decide +kernel
theorem dJ2_getChars_46870_36 : decode cJ2_getChars_46870 36 = .ok (.ireturn, 1) := by decide +kernel
theorem dJ2_putCharsAt_cd4e5_0 : decode cJ2_putCharsAt_cd4e5 0 = .ok (.iload_n 1, 1) := by decide +kernel
theorem dJ2_putCharsAt_cd4e5_1 : decode cJ2_putCharsAt_cd4e5 1 = .ok (.iconst 4, 1) := by decide +kernel
theorem dJ2_putCharsAt_cd4e5_2 : decode cJ2_putCharsAt_cd4e5 2 = .ok (.iadd, 1) := by decide +kernel
theorem dJ2_putCharsAt_cd4e5_3 : decode cJ2_putCharsAt_cd4e5 3 = .ok (.istore 6, 2) := by decide +kernel
theorem dJ2_putCharsAt_cd4e5_5 : decode cJ2_putCharsAt_cd4e5 5 = .ok (.iload_n 1, 1) := by decide +kernel
theorem dJ2_putCharsAt_cd4e5_6 : decode cJ2_putCharsAt_cd4e5 6 = .ok (.iload 6, 2) := by decide +kernel
theorem dJ2_putCharsAt_cd4e5_8 : decode cJ2_putCharsAt_cd4e5 8 = .ok (.aload_n 0, 1) := by decide +kernel
theorem dJ2_putCharsAt_cd4e5_9 : decode cJ2_putCharsAt_cd4e5 9 = .ok (.invokestatic 96, 3) := by decide +kernel
theorem dJ2_putCharsAt_cd4e5_12 : decode cJ2_putCharsAt_cd4e5 12 = .ok (.aload_n 0, 1) := by decide +kernel
theorem dJ2_putCharsAt_cd4e5_13 : decode cJ2_putCharsAt_cd4e5 13 = .ok (.iload_n 1, 1) := by decide +kernel
theorem dJ2_putCharsAt_cd4e5_14 : decode cJ2_putCharsAt_cd4e5 14 = .ok (.iinc 1 1, 3) := by decide +kernel
theorem dJ2_putCharsAt_cd4e5_17 : decode cJ2_putCharsAt_cd4e5 17 = .ok (.iload_n 2, 1) := by decide +kernel
theorem dJ2_putCharsAt_cd4e5_18 : decode cJ2_putCharsAt_cd4e5 18 = .ok (.invokestatic 111, 3) := by decide +kernel
theorem dJ2_putCharsAt_cd4e5_21 : decode cJ2_putCharsAt_cd4e5 21 = .ok (.aload_n 0, 1) := by decide +kernel
theorem dJ2_putCharsAt_cd4e5_22 : decode cJ2_putCharsAt_cd4e5 22 = .ok (.iload_n 1, 1) := by decide +kernel
theorem dJ2_putCharsAt_cd4e5_23 : decode cJ2_putCharsAt_cd4e5 23 = .ok (.iinc 1 1, 3) := by decide +kernel
theorem dJ2_putCharsAt_cd4e5_26 : decode cJ2_putCharsAt_cd4e5 26 = .ok (.iload_n 3, 1) := by decide +kernel
theorem dJ2_putCharsAt_cd4e5_27 : decode cJ2_putCharsAt_cd4e5 27 = .ok (.invokestatic 111, 3) := by decide +kernel
theorem dJ2_putCharsAt_cd4e5_30 : decode cJ2_putCharsAt_cd4e5 30 = .ok (.aload_n 0, 1) := by decide +kernel
theorem dJ2_putCharsAt_cd4e5_31 : decode cJ2_putCharsAt_cd4e5 31 = .ok (.iload_n 1, 1) := by decide +kernel
theorem dJ2_putCharsAt_cd4e5_32 : decode cJ2_putCharsAt_cd4e5 32 = .ok (.iinc 1 1, 3) := by decide +kernel
theorem dJ2_putCharsAt_cd4e5_35 : decode cJ2_putCharsAt_cd4e5 35 = .ok (.iload 4, 2) := by decide +kernel
theorem dJ2_putCharsAt_cd4e5_37 : decode cJ2_putCharsAt_cd4e5 37 = .ok (.invokestatic 111, 3) := by decide +kernel
theorem dJ2_putCharsAt_cd4e5_40 : decode cJ2_putCharsAt_cd4e5 40 = .ok (.aload_n 0, 1) := by decide +kernel
theorem dJ2_putCharsAt_cd4e5_41 : decode cJ2_putCharsAt_cd4e5 41 = .ok (.iload_n 1, 1) := by decide +kernel
theorem dJ2_putCharsAt_cd4e5_42 : decode cJ2_putCharsAt_cd4e5 42 = .ok (.iinc 1 1, 3) := by decide +kernel
theorem dJ2_putCharsAt_cd4e5_45 : decode cJ2_putCharsAt_cd4e5 45 = .ok (.iload 5, 2) := by decide +kernel
theorem dJ2_putCharsAt_cd4e5_47 : decode cJ2_putCharsAt_cd4e5 47 = .ok (.invokestatic 111, 3) := by decide +kernel
theorem dJ2_putCharsAt_cd4e5_50 : decode cJ2_putCharsAt_cd4e5 50 = .ok (.getstatic 44, 3) := by decide +kernel
theorem dJ2_putCharsAt_cd4e5_53 : decode cJ2_putCharsAt_cd4e5 53 = .ok (.ifCond .ne 17, 3) := by decide +kernel
theorem dJ2_putCharsAt_cd4e5_56 : decode cJ2_putCharsAt_cd4e5 56 = .ok (.iload_n 1, 1) := by decide +kernel
theorem dJ2_putCharsAt_cd4e5_57 : decode cJ2_putCharsAt_cd4e5 57 = .ok (.iload 6, 2) := by decide +kernel
theorem dJ2_putCharsAt_cd4e5_59 : decode cJ2_putCharsAt_cd4e5 59 = .ok (.if_icmp .eq 11, 3) := by decide +kernel
theorem dJ2_putCharsAt_cd4e5_62 : decode cJ2_putCharsAt_cd4e5 62 = .ok (.new 52, 3) := by decide +kernel
theorem dJ2_putCharsAt_cd4e5_65 : decode cJ2_putCharsAt_cd4e5 65 = .ok (.dup, 1) := by decide +kernel
theorem dJ2_putCharsAt_cd4e5_66 : decode cJ2_putCharsAt_cd4e5 66 = .ok (.invokespecial 66, 3) := by decide +kernel
theorem dJ2_putCharsAt_cd4e5_69 : decode cJ2_putCharsAt_cd4e5 69 = .ok (.athrow, 1) := by decide +kernel
theorem dJ2_putCharsAt_cd4e5_70 : decode cJ2_putCharsAt_cd4e5 70 = .ok (.iload 6, 2) := by decide +kernel
theorem dJ2_putCharsAt_cd4e5_72 : decode cJ2_putCharsAt_cd4e5 72 = .ok (.ireturn, 1) := by decide +kernel
theorem dJ2_charAt_3b067_0 : decode cJ2_charAt_3b067 0 = .ok (.iload_n 1, 1) := by decide +kernel
theorem dJ2_charAt_3b067_1 : decode cJ2_charAt_3b067 1 = .ok (.aload_n 0, 1) := by decide +kernel
theorem dJ2_charAt_3b067_2 : decode cJ2_charAt_3b067 2 = .ok (.invokestatic 67, 3) := by decide +kernel
theorem dJ2_charAt_3b067_5 : decode cJ2_charAt_3b067 5 = .ok (.aload_n 0, 1) := by decide +kernel
theorem dJ2_charAt_3b067_6 : decode cJ2_charAt_3b067 6 = .ok (.iload_n 1, 1) := by decide +kernel
theorem dJ2_charAt_3b067_7 : decode cJ2_charAt_3b067 7 = .ok (.invokestatic 71, 3) := by decide +kernel
theorem dJ2_charAt_3b067_10 : decode cJ2_charAt_3b067 10 = .ok (.ireturn, 1) := by decide +kernel
theorem dJ2_inflate_0e8fd_0 : decode cJ2_inflate_0e8fd 0 = .ok (.iload_n 3, 1) := by decide +kernel
theorem dJ2_inflate_0e8fd_1 : decode cJ2_inflate_0e8fd 1 = .ok (.iload 4, 2) := by decide +kernel
theorem dJ2_inflate_0e8fd_3 : decode cJ2_inflate_0e8fd 3 = .ok (.aload_n 2, 1) := by decide +kernel
theorem dJ2_inflate_0e8fd_4 : decode cJ2_inflate_0e8fd 4 = .ok (.invokestatic 173, 3) := by decide +kernel
theorem dJ2_inflate_0e8fd_7 : decode cJ2_inflate_0e8fd 7 = .ok (.iconst 0, 1) := by decide +kernel
theorem dJ2_inflate_0e8fd_8 : decode cJ2_inflate_0e8fd 8 = .ok (.istore 5, 2) := by decide +kernel
theorem dJ2_inflate_0e8fd_10 : decode cJ2_inflate_0e8fd 10 = .ok (.iload 5, 2) := by decide +kernel
theorem dJ2_inflate_0e8fd_12 : decode cJ2_inflate_0e8fd 12 = .ok (.iload 4, 2) := by decide +kernel
theorem dJ2_inflate_0e8fd_14 : decode cJ2_inflate_0e8fd 14 = .ok (.if_icmp .ge 27, 3) := by decide +kernel
theorem dJ2_inflate_0e8fd_17 : decode cJ2_inflate_0e8fd 17 = .ok (.aload_n 2, 1) := by decide +kernel
theorem dJ2_inflate_0e8fd_18 : decode cJ2_inflate_0e8fd 18 = .ok (.iload_n 3, 1) := by decide +kernel
