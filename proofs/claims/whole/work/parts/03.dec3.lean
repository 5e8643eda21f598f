theorem dX11_ringers_96 : decode cX11_ringers 96 = .ok (.ireturn, 1) := by decide +kernel
theorem dX11_town_0 : decode cX11_town 0 = .ok (.aload_n 0, 1) := by decide +kernel
theorem dX11_town_1 : decode cX11_town 1 = .ok (.iconst 0, 1) := by decide +kernel
theorem dX11_town_2 : decode cX11_town 2 = .ok (.putfield 102, 3) := by decide +kernel
theorem dX11_town_5 : decode cX11_town 5 = .ok (.aload_n 0, 1) := by decide +kernel
theorem dX11_town_6 : decode cX11_town 6 = .ok (.aload_n 0, 1) := by decide +kernel
theorem dX11_town_7 : decode cX11_town 7 = .ok (.getfield 202, 3) := by decide +kernel
theorem dX11_town_10 : decode cX11_town 10 = .ok (.invokevirtual 196, 3) := by decide +kernel
theorem dX11_town_13 : decode cX11_town 13 = .ok (.istore_n 1, 1) := by decide +kernel
theorem dX11_town_14 : decode cX11_town 14 = .ok (.iload_n 1, 1) := by decide +kernel
theorem dX11_town_15 : decode cX11_town 15 = .ok (.ifCond .ge 5, 3) := by decide +kernel
theorem dX11_town_18 : decode cX11_town 18 = .ok (.iload_n 1, 1) := by decide +kernel
theorem dX11_town_19 : decode cX11_town 19 = .ok (.ireturn, 1) := by decide +kernel
theorem dX11_town_20 : decode cX11_town 20 = .ok (.iconst 0, 1) := by decide +kernel
theorem dX11_town_21 : decode cX11_town 21 = .ok (.istore_n 2, 1) := by decide +kernel
theorem dX11_town_22 : decode cX11_town 22 = .ok (.iload_n 2, 1) := by decide +kernel
theorem dX11_town_23 : decode cX11_town 23 = .ok (.aload_n 0, 1) := by decide +kernel
theorem dX11_town_24 : decode cX11_town 24 = .ok (.getfield 164, 3) := by decide +kernel
theorem dX11_town_27 : decode cX11_town 27 = .ok (.if_icmp .ge 55, 3) := by decide +kernel
theorem dX11_town_30 : decode cX11_town 30 = .ok (.aload_n 0, 1) := by decide +kernel
theorem dX11_town_31 : decode cX11_town 31 = .ok (.getfield 20, 3) := by decide +kernel
theorem dX11_town_34 : decode cX11_town 34 = .ok (.aload_n 0, 1) := by decide +kernel
theorem dX11_town_35 : decode cX11_town 35 = .ok (.getfield 202, 3) := by decide +kernel
theorem dX11_town_38 : decode cX11_town 38 = .ok (.aload_n 0, 1) := by decide +kernel
theorem dX11_town_39 : decode cX11_town 39 = .ok (.getfield 38, 3) := by decide +kernel
theorem dX11_town_42 : decode cX11_town 42 = .ok (.iconst 2, 1) := by decide +kernel
theorem dX11_town_43 : decode cX11_town 43 = .ok (.iload_n 2, 1) := by decide +kernel
theorem dX11_town_44 : decode cX11_town 44 = .ok (.imul, 1) := by decide +kernel
theorem dX11_town_45 : decode cX11_town 45 = .ok (.iaload, 1) := by decide +kernel
theorem dX11_town_46 : decode cX11_town 46 = .ok (.iastore, 1) := by decide +kernel
theorem dX11_town_47 : decode cX11_town 47 = .ok (.aload_n 0, 1) := by decide +kernel
theorem dX11_town_48 : decode cX11_town 48 = .ok (.getfield 23, 3) := by decide +kernel
theorem dX11_town_51 : decode cX11_town 51 = .ok (.aload_n 0, 1) := by decide +kernel
theorem dX11_town_52 : decode cX11_town 52 = .ok (.getfield 202, 3) := by decide +kernel
theorem dX11_town_55 : decode cX11_town 55 = .ok (.aload_n 0, 1) := by decide +kernel
theorem dX11_town_56 : decode cX11_town 56 = .ok (.getfield 38, 3) := by decide +kernel
theorem dX11_town_59 : decode cX11_town 59 = .ok (.iconst 2, 1) := by decide +kernel
theorem dX11_town_60 : decode cX11_town 60 = .ok (.iload_n 2, 1) := by decide +kernel
theorem dX11_town_61 : decode cX11_town 61 = .ok (.imul, 1) := by decide +kernel
theorem dX11_town_62 : decode cX11_town 62 = .ok (.iconst 1, 1) := by decide +kernel
theorem dX11_town_63 : decode cX11_town 63 = .ok (.iadd, 1) := by decide +kernel
theorem dX11_town_64 : decode cX11_town 64 = .ok (.iaload, 1) := by decide +kernel
theorem dX11_town_65 : decode cX11_town 65 = .ok (.iastore, 1) := by decide +kernel
theorem dX11_town_66 : decode cX11_town 66 = .ok (.aload_n 0, 1) := by decide +kernel
theorem dX11_town_67 : decode cX11_town 67 = .ok (.dup, 1) := by decide +kernel
theorem dX11_town_68 : decode cX11_town 68 = .ok (.getfield 202, 3) := by decide +kernel
theorem dX11_town_71 : decode cX11_town 71 = .ok (.iconst 1, 1) := by decide +kernel
theorem dX11_town_72 : decode cX11_town 72 = .ok (.iadd, 1) := by decide +kernel
theorem dX11_town_73 : decode cX11_town 73 = .ok (.putfield 202, 3) := by decide +kernel
theorem dX11_town_76 : decode cX11_town 76 = .ok (.iinc 2 1, 3) := by decide +kernel
theorem dX11_town_79 : decode cX11_town 79 = .ok (.goto (-57), 3) := by decide +kernel
theorem dX11_town_82 : decode cX11_town 82 = .ok (.aload_n 0, 1) := by decide +kernel
theorem dX11_town_83 : decode cX11_town 83 = .ok (.invokevirtual 199, 3) := by decide +kernel
theorem dX11_town_86 : decode cX11_town 86 = .ok (.ireturn, 1) := by decide +kernel
theorem dX11_codes_0 : decode cX11_codes 0 = .ok (.aload_n 0, 1) := by decide +kernel
theorem dX11_codes_1 : decode cX11_codes 1 = .ok (.getfield 44, 3) := by decide +kernel
theorem dX11_codes_4 : decode cX11_codes 4 = .ok (.aload_n 0, 1) := by decide +kernel
theorem dX11_codes_5 : decode cX11_codes 5 = .ok (.getfield 205, 3) := by decide +kernel
theorem dX11_codes_8 : decode cX11_codes 8 = .ok (.iload_n 1, 1) := by decide +kernel
theorem dX11_codes_9 : decode cX11_codes 9 = .ok (.iastore, 1) := by decide +kernel
theorem dX11_codes_10 : decode cX11_codes 10 = .ok (.aload_n 0, 1) := by decide +kernel
theorem dX11_codes_11 : decode cX11_codes 11 = .ok (.dup, 1) := by decide +kernel
theorem dX11_codes_12 : decode cX11_codes 12 = .ok (.getfield 205, 3) := by decide +kernel
theorem dX11_codes_15 : decode cX11_codes 15 = .ok (.iconst 1, 1) := by decide +kernel
theorem dX11_codes_16 : decode cX11_codes 16 = .ok (.iadd, 1) := by decide +kernel
theorem dX11_codes_17 : decode cX11_codes 17 = .ok (.putfield 205, 3) := by decide +kernel
theorem dX11_codes_20 : decode cX11_codes 20 = .ok (.return_, 1) := by decide +kernel
theorem dX11_readsThing_0 : decode cX11_readsThing 0 = .ok (.aload_n 0, 1) := by decide +kernel
theorem dX11_readsThing_1 : decode cX11_readsThing 1 = .ok (.bipush 45, 2) := by decide +kernel
theorem dX11_readsThing_3 : decode cX11_readsThing 3 = .ok (.invokevirtual 183, 3) := by decide +kernel
theorem dX11_readsThing_6 : decode cX11_readsThing 6 = .ok (.ifCond .eq 17, 3) := by decide +kernel
theorem dX11_readsThing_9 : decode cX11_readsThing 9 = .ok (.aload_n 0, 1) := by decide +kernel
theorem dX11_readsThing_10 : decode cX11_readsThing 10 = .ok (.invokevirtual 208, 3) := by decide +kernel
theorem dX11_readsThing_13 : decode cX11_readsThing 13 = .ok (.istore_n 1, 1) := by decide +kernel
theorem dX11_readsThing_14 : decode cX11_readsThing 14 = .ok (.aload_n 0, 1) := by decide +kernel
theorem dX11_readsThing_15 : decode cX11_readsThing 15 = .ok (.sipush 3000, 3) := by decide +kernel
theorem dX11_readsThing_18 : decode cX11_readsThing 18 = .ok (.invokevirtual 211, 3) := by decide +kernel
theorem dX11_readsThing_21 : decode cX11_readsThing 21 = .ok (.iload_n 1, 1) := by decide +kernel
theorem dX11_readsThing_22 : decode cX11_readsThing 22 = .ok (.ireturn, 1) := by decide +kernel
theorem dX11_readsThing_23 : decode cX11_readsThing 23 = .ok (.aload_n 0, 1) := by decide +kernel
theorem dX11_readsThing_24 : decode cX11_readsThing 24 = .ok (.invokevirtual 160, 3) := by decide +kernel
theorem dX11_readsThing_27 : decode cX11_readsThing 27 = .ok (.ifCond .eq 14, 3) := by decide +kernel
theorem dX11_readsThing_30 : decode cX11_readsThing 30 = .ok (.aload_n 0, 1) := by decide +kernel
theorem dX11_readsThing_31 : decode cX11_readsThing 31 = .ok (.aload_n 0, 1) := by decide +kernel
theorem dX11_readsThing_32 : decode cX11_readsThing 32 = .ok (.iconst 3, 1) := by decide +kernel
theorem dX11_readsThing_33 : decode cX11_readsThing 33 = .ok (.invokevirtual 172, 3) := by decide +kernel
theorem dX11_readsThing_36 : decode cX11_readsThing 36 = .ok (.invokevirtual 211, 3) := by decide +kernel
theorem dX11_readsThing_39 : decode cX11_readsThing 39 = .ok (.iconst 1, 1) := by decide +kernel
theorem dX11_readsThing_40 : decode cX11_readsThing 40 = .ok (.ireturn, 1) := by decide +kernel
theorem dX11_readsThing_41 : decode cX11_readsThing 41 = .ok (.aload_n 0, 1) := by decide +kernel
theorem dX11_readsThing_42 : decode cX11_readsThing 42 = .ok (.ldc 215, 2) := by decide +kernel
theorem dX11_readsThing_44 : decode cX11_readsThing 44 = .ok (.invokevirtual 169, 3) := by decide +kernel
theorem dX11_readsThing_47 : decode cX11_readsThing 47 = .ok (.istore_n 1, 1) := by decide +kernel
theorem dX11_readsThing_48 : decode cX11_readsThing 48 = .ok (.iload_n 1, 1) := by decide +kernel
theorem dX11_readsThing_49 : decode cX11_readsThing 49 = .ok (.ifCond .lt 14, 3) := by decide +kernel
theorem dX11_readsThing_52 : decode cX11_readsThing 52 = .ok (.aload_n 0, 1) := by decide +kernel
theorem dX11_readsThing_53 : decode cX11_readsThing 53 = .ok (.sipush 1000, 3) := by decide +kernel
theorem dX11_readsThing_56 : decode cX11_readsThing 56 = .ok (.iload_n 1, 1) := by decide +kernel
theorem dX11_readsThing_57 : decode cX11_readsThing 57 = .ok (.iadd, 1) := by decide +kernel
theorem dX11_readsThing_58 : decode cX11_readsThing 58 = .ok (.invokevirtual 211, 3) := by decide +kernel
theorem dX11_readsThing_61 : decode cX11_readsThing 61 = .ok (.iconst 1, 1) := by decide +kernel
theorem dX11_readsThing_62 : decode cX11_readsThing 62 = .ok (.ireturn, 1) := by decide +kernel
theorem dX11_readsThing_63 : decode cX11_readsThing 63 = .ok (.aload_n 0, 1) := by decide +kernel
theorem dX11_readsThing_64 : decode cX11_readsThing 64 = .ok (.getfield 126, 3) := by decide +kernel
theorem dX11_readsThing_67 : decode cX11_readsThing 67 = .ok (.iconst 4, 1) := by decide +kernel
theorem dX11_readsThing_68 : decode cX11_readsThing 68 = .ok (.if_icmp .eq 12, 3) := by decide +kernel
theorem dX11_readsThing_71 : decode cX11_readsThing 71 = .ok (.aload_n 0, 1) := by decide +kernel
theorem dX11_readsThing_72 : decode cX11_readsThing 72 = .ok (.bipush 40, 2) := by decide +kernel
theorem dX11_readsThing_74 : decode cX11_readsThing 74 = .ok (.invokevirtual 183, 3) := by decide +kernel
theorem dX11_readsThing_77 : decode cX11_readsThing 77 = .ok (.ifCond .ne 5, 3) := by decide +kernel
theorem dX11_readsThing_80 : decode cX11_readsThing 80 = .ok (.iconst 0, 1) := by decide +kernel
theorem dX11_readsThing_81 : decode cX11_readsThing 81 = .ok (.ireturn, 1) := by decide +kernel
theorem dX11_readsThing_82 : decode cX11_readsThing 82 = .ok (.aload_n 0, 1) := by decide +kernel
theorem dX11_readsThing_83 : decode cX11_readsThing 83 = .ok (.dup, 1) := by decide +kernel
theorem dX11_readsThing_84 : decode cX11_readsThing 84 = .ok (.getfield 126, 3) := by decide +kernel
theorem dX11_readsThing_87 : decode cX11_readsThing 87 = .ok (.iconst 1, 1) := by decide +kernel
theorem dX11_readsThing_88 : decode cX11_readsThing 88 = .ok (.iadd, 1) := by decide +kernel
theorem dX11_readsThing_89 : decode cX11_readsThing 89 = .ok (.putfield 126, 3) := by decide +kernel
theorem dX11_readsThing_92 : decode cX11_readsThing 92 = .ok (.aload_n 0, 1) := by decide +kernel
theorem dX11_readsThing_93 : decode cX11_readsThing 93 = .ok (.iconst 0, 1) := by decide +kernel
theorem dX11_readsThing_94 : decode cX11_readsThing 94 = .ok (.invokevirtual 217, 3) := by decide +kernel
theorem dX11_readsThing_97 : decode cX11_readsThing 97 = .ok (.ifCond .eq 12, 3) := by decide +kernel
theorem dX11_readsThing_100 : decode cX11_readsThing 100 = .ok (.aload_n 0, 1) := by decide +kernel
theorem dX11_readsThing_101 : decode cX11_readsThing 101 = .ok (.bipush 41, 2) := by decide +kernel
theorem dX11_readsThing_103 : decode cX11_readsThing 103 = .ok (.invokevirtual 183, 3) := by decide +kernel
theorem dX11_readsThing_106 : decode cX11_readsThing 106 = .ok (.ifCond .ne 5, 3) := by decide +kernel
theorem dX11_readsThing_109 : decode cX11_readsThing 109 = .ok (.iconst 0, 1) := by decide +kernel
theorem dX11_readsThing_110 : decode cX11_readsThing 110 = .ok (.ireturn, 1) := by decide +kernel
theorem dX11_readsThing_111 : decode cX11_readsThing 111 = .ok (.aload_n 0, 1) := by decide +kernel
theorem dX11_readsThing_112 : decode cX11_readsThing 112 = .ok (.dup, 1) := by decide +kernel
theorem dX11_readsThing_113 : decode cX11_readsThing 113 = .ok (.getfield 126, 3) := by decide +kernel
theorem dX11_readsThing_116 : decode cX11_readsThing 116 = .ok (.iconst 1, 1) := by decide +kernel
theorem dX11_readsThing_117 : decode cX11_readsThing 117 = .ok (.isub, 1) := by decide +kernel
theorem dX11_readsThing_118 : decode cX11_readsThing 118 = .ok (.putfield 126, 3) := by decide +kernel
theorem dX11_readsThing_121 : decode cX11_readsThing 121 = .ok (.iconst 1, 1) := by decide +kernel
theorem dX11_readsThing_122 : decode cX11_readsThing 122 = .ok (.ireturn, 1) := by decide +kernel
theorem dX11_readsRank_0 : decode cX11_readsRank 0 = .ok (.iload_n 1, 1) := by decide +kernel
theorem dX11_readsRank_1 : decode cX11_readsRank 1 = .ok (.iconst 3, 1) := by decide +kernel
theorem dX11_readsRank_2 : decode cX11_readsRank 2 = .ok (.if_icmp .ne 8, 3) := by decide +kernel
theorem dX11_readsRank_5 : decode cX11_readsRank 5 = .ok (.aload_n 0, 1) := by decide +kernel
theorem dX11_readsRank_6 : decode cX11_readsRank 6 = .ok (.invokevirtual 208, 3) := by decide +kernel
theorem dX11_readsRank_9 : decode cX11_readsRank 9 = .ok (.ireturn, 1) := by decide +kernel
theorem dX11_readsRank_10 : decode cX11_readsRank 10 = .ok (.aload_n 0, 1) := by decide +kernel
theorem dX11_readsRank_11 : decode cX11_readsRank 11 = .ok (.iload_n 1, 1) := by decide +kernel
theorem dX11_readsRank_12 : decode cX11_readsRank 12 = .ok (.iconst 1, 1) := by decide +kernel
theorem dX11_readsRank_13 : decode cX11_readsRank 13 = .ok (.iadd, 1) := by decide +kernel
theorem dX11_readsRank_14 : decode cX11_readsRank 14 = .ok (.invokevirtual 217, 3) := by decide +kernel
theorem dX11_readsRank_17 : decode cX11_readsRank 17 = .ok (.ifCond .ne 5, 3) := by decide +kernel
theorem dX11_readsRank_20 : decode cX11_readsRank 20 = .ok (.iconst 0, 1) := by decide +kernel
theorem dX11_readsRank_21 : decode cX11_readsRank 21 = .ok (.ireturn, 1) := by decide +kernel
theorem dX11_readsRank_22 : decode cX11_readsRank 22 = .ok (.iconst 1, 1) := by decide +kernel
theorem dX11_readsRank_23 : decode cX11_readsRank 23 = .ok (.istore_n 2, 1) := by decide +kernel
theorem dX11_readsRank_24 : decode cX11_readsRank 24 = .ok (.iload_n 2, 1) := by decide +kernel
theorem dX11_readsRank_25 : decode cX11_readsRank 25 = .ok (.ifCond .eq 88, 3) := by decide +kernel
theorem dX11_readsRank_28 : decode cX11_readsRank 28 = .ok (.aload_n 0, 1) := by decide +kernel
theorem dX11_readsRank_29 : decode cX11_readsRank 29 = .ok (.iload_n 1, 1) := by decide +kernel
theorem dX11_readsRank_30 : decode cX11_readsRank 30 = .ok (.ifCond .ne 8, 3) := by decide +kernel
theorem dX11_readsRank_33 : decode cX11_readsRank 33 = .ok (.ldc 220, 2) := by decide +kernel
theorem dX11_readsRank_35 : decode cX11_readsRank 35 = .ok (.goto 15, 3) := by decide +kernel
theorem dX11_readsRank_38 : decode cX11_readsRank 38 = .ok (.iload_n 1, 1) := by decide +kernel
theorem dX11_readsRank_39 : decode cX11_readsRank 39 = .ok (.iconst 1, 1) := by decide +kernel
theorem dX11_readsRank_40 : decode cX11_readsRank 40 = .ok (.if_icmp .ne 8, 3) := by decide +kernel
theorem dX11_readsRank_43 : decode cX11_readsRank 43 = .ok (.ldc 222, 2) := by decide +kernel
theorem dX11_readsRank_45 : decode cX11_readsRank 45 = .ok (.goto 5, 3) := by decide +kernel
theorem dX11_readsRank_48 : decode cX11_readsRank 48 = .ok (.ldc 224, 2) := by decide +kernel
theorem dX11_readsRank_50 : decode cX11_readsRank 50 = .ok (.invokevirtual 169, 3) := by decide +kernel
theorem dX11_readsRank_53 : decode cX11_readsRank 53 = .ok (.istore_n 3, 1) := by decide +kernel
theorem dX11_readsRank_54 : decode cX11_readsRank 54 = .ok (.iload_n 3, 1) := by decide +kernel
theorem dX11_readsRank_55 : decode cX11_readsRank 55 = .ok (.ifCond .ge 5, 3) := by decide +kernel
theorem dX11_readsRank_58 : decode cX11_readsRank 58 = .ok (.iconst 1, 1) := by decide +kernel
theorem dX11_readsRank_59 : decode cX11_readsRank 59 = .ok (.ireturn, 1) := by decide +kernel
theorem dX11_readsRank_60 : decode cX11_readsRank 60 = .ok (.aload_n 0, 1) := by decide +kernel
theorem dX11_readsRank_61 : decode cX11_readsRank 61 = .ok (.iload_n 1, 1) := by decide +kernel
theorem dX11_readsRank_62 : decode cX11_readsRank 62 = .ok (.iconst 1, 1) := by decide +kernel
theorem dX11_readsRank_63 : decode cX11_readsRank 63 = .ok (.iadd, 1) := by decide +kernel
theorem dX11_readsRank_64 : decode cX11_readsRank 64 = .ok (.invokevirtual 217, 3) := by decide +kernel
theorem dX11_readsRank_67 : decode cX11_readsRank 67 = .ok (.ifCond .ne 5, 3) := by decide +kernel
theorem dX11_readsRank_70 : decode cX11_readsRank 70 = .ok (.iconst 0, 1) := by decide +kernel
theorem dX11_readsRank_71 : decode cX11_readsRank 71 = .ok (.ireturn, 1) := by decide +kernel
theorem dX11_readsRank_72 : decode cX11_readsRank 72 = .ok (.aload_n 0, 1) := by decide +kernel
theorem dX11_readsRank_73 : decode cX11_readsRank 73 = .ok (.sipush 2000, 3) := by decide +kernel
theorem dX11_readsRank_76 : decode cX11_readsRank 76 = .ok (.iload_n 3, 1) := by decide +kernel
theorem dX11_readsRank_77 : decode cX11_readsRank 77 = .ok (.iadd, 1) := by decide +kernel
theorem dX11_readsRank_78 : decode cX11_readsRank 78 = .ok (.iload_n 1, 1) := by decide +kernel
theorem dX11_readsRank_79 : decode cX11_readsRank 79 = .ok (.ifCond .ne 7, 3) := by decide +kernel
theorem dX11_readsRank_82 : decode cX11_readsRank 82 = .ok (.iconst 0, 1) := by decide +kernel
theorem dX11_readsRank_83 : decode cX11_readsRank 83 = .ok (.goto 13, 3) := by decide +kernel
theorem dX11_readsRank_86 : decode cX11_readsRank 86 = .ok (.iload_n 1, 1) := by decide +kernel
theorem dX11_readsRank_87 : decode cX11_readsRank 87 = .ok (.iconst 1, 1) := by decide +kernel
theorem dX11_readsRank_88 : decode cX11_readsRank 88 = .ok (.if_icmp .ne 7, 3) := by decide +kernel
theorem dX11_readsRank_91 : decode cX11_readsRank 91 = .ok (.iconst 3, 1) := by decide +kernel
theorem dX11_readsRank_92 : decode cX11_readsRank 92 = .ok (.goto 4, 3) := by decide +kernel
theorem dX11_readsRank_95 : decode cX11_readsRank 95 = .ok (.iconst 5, 1) := by decide +kernel
theorem dX11_readsRank_96 : decode cX11_readsRank 96 = .ok (.iadd, 1) := by decide +kernel
theorem dX11_readsRank_97 : decode cX11_readsRank 97 = .ok (.invokevirtual 211, 3) := by decide +kernel
theorem dX11_readsRank_100 : decode cX11_readsRank 100 = .ok (.iload_n 1, 1) := by decide +kernel
theorem dX11_readsRank_101 : decode cX11_readsRank 101 = .ok (.ifCond .le 7, 3) := by decide +kernel
theorem dX11_readsRank_104 : decode cX11_readsRank 104 = .ok (.iconst 1, 1) := by decide +kernel
theorem dX11_readsRank_105 : decode cX11_readsRank 105 = .ok (.goto 4, 3) := by decide +kernel
theorem dX11_readsRank_108 : decode cX11_readsRank 108 = .ok (.iconst 0, 1) := by decide +kernel
theorem dX11_readsRank_109 : decode cX11_readsRank 109 = .ok (.istore_n 2, 1) := by decide +kernel
theorem dX11_readsRank_110 : decode cX11_readsRank 110 = .ok (.goto (-86), 3) := by decide +kernel
theorem dX11_readsRank_113 : decode cX11_readsRank 113 = .ok (.iconst 1, 1) := by decide +kernel
theorem dX11_readsRank_114 : decode cX11_readsRank 114 = .ok (.ireturn, 1) := by decide +kernel
theorem dX11_readsRule_0 : decode cX11_readsRule 0 = .ok (.aload_n 0, 1) := by decide +kernel
theorem dX11_readsRule_1 : decode cX11_readsRule 1 = .ok (.bipush 40, 2) := by decide +kernel
theorem dX11_readsRule_3 : decode cX11_readsRule 3 = .ok (.invokevirtual 176, 3) := by decide +kernel
theorem dX11_readsRule_6 : decode cX11_readsRule 6 = .ok (.istore_n 1, 1) := by decide +kernel
theorem dX11_readsRule_7 : decode cX11_readsRule 7 = .ok (.aload_n 0, 1) := by decide +kernel
theorem dX11_readsRule_8 : decode cX11_readsRule 8 = .ok (.iconst 0, 1) := by decide +kernel
theorem dX11_readsRule_9 : decode cX11_readsRule 9 = .ok (.putfield 205, 3) := by decide +kernel
theorem dX11_readsRule_12 : decode cX11_readsRule 12 = .ok (.iload_n 1, 1) := by decide +kernel
theorem dX11_readsRule_13 : decode cX11_readsRule 13 = .ok (.ifCond .eq 11, 3) := by decide +kernel
theorem dX11_readsRule_16 : decode cX11_readsRule 16 = .ok (.aload_n 0, 1) := by decide +kernel
theorem dX11_readsRule_17 : decode cX11_readsRule 17 = .ok (.iconst 0, 1) := by decide +kernel
theorem dX11_readsRule_18 : decode cX11_readsRule 18 = .ok (.invokevirtual 217, 3) := by decide +kernel
theorem dX11_readsRule_21 : decode cX11_readsRule 21 = .ok (.ifCond .eq 7, 3) := by decide +kernel
theorem dX11_readsRule_24 : decode cX11_readsRule 24 = .ok (.iconst 1, 1) := by decide +kernel
theorem dX11_readsRule_25 : decode cX11_readsRule 25 = .ok (.goto 4, 3) := by decide +kernel
theorem dX11_readsRule_28 : decode cX11_readsRule 28 = .ok (.iconst 0, 1) := by decide +kernel
theorem dX11_readsRule_29 : decode cX11_readsRule 29 = .ok (.istore_n 2, 1) := by decide +kernel
theorem dX11_readsRule_30 : decode cX11_readsRule 30 = .ok (.aload_n 0, 1) := by decide +kernel
theorem dX11_readsRule_31 : decode cX11_readsRule 31 = .ok (.iload_n 1, 1) := by decide +kernel
theorem dX11_readsRule_32 : decode cX11_readsRule 32 = .ok (.bipush 40, 2) := by decide +kernel
theorem dX11_readsRule_34 : decode cX11_readsRule 34 = .ok (.iload_n 2, 1) := by decide +kernel
theorem dX11_readsRule_35 : decode cX11_readsRule 35 = .ok (.invokevirtual 186, 3) := by decide +kernel
theorem dX11_readsRule_38 : decode cX11_readsRule 38 = .ok (.ireturn, 1) := by decide +kernel
theorem dX11_rule_0 : decode cX11_rule 0 = .ok (.aload_n 0, 1) := by decide +kernel
theorem dX11_rule_1 : decode cX11_rule 1 = .ok (.iconst 0, 1) := by decide +kernel
theorem dX11_rule_2 : decode cX11_rule 2 = .ok (.putfield 102, 3) := by decide +kernel
theorem dX11_rule_5 : decode cX11_rule 5 = .ok (.aload_n 0, 1) := by decide +kernel
theorem dX11_rule_6 : decode cX11_rule 6 = .ok (.invokevirtual 226, 3) := by decide +kernel
theorem dX11_rule_9 : decode cX11_rule 9 = .ok (.istore_n 1, 1) := by decide +kernel
theorem dX11_rule_10 : decode cX11_rule 10 = .ok (.iload_n 1, 1) := by decide +kernel
theorem dX11_rule_11 : decode cX11_rule 11 = .ok (.ifCond .ne 15, 3) := by decide +kernel
theorem dX11_rule_14 : decode cX11_rule 14 = .ok (.aload_n 0, 1) := by decide +kernel
theorem dX11_rule_15 : decode cX11_rule 15 = .ok (.aload_n 0, 1) := by decide +kernel
theorem dX11_rule_16 : decode cX11_rule 16 = .ok (.getfield 44, 3) := by decide +kernel
theorem dX11_rule_19 : decode cX11_rule 19 = .ok (.aload_n 0, 1) := by decide +kernel
theorem dX11_rule_20 : decode cX11_rule 20 = .ok (.getfield 205, 3) := by decide +kernel
theorem dX11_rule_23 : decode cX11_rule 23 = .ok (.invokevirtual 229, 3) := by decide +kernel
theorem dX11_rule_26 : decode cX11_rule 26 = .ok (.iload_n 1, 1) := by decide +kernel
theorem dX11_rule_27 : decode cX11_rule 27 = .ok (.ireturn, 1) := by decide +kernel
theorem dX11_laysCode_0 : decode cX11_laysCode 0 = .ok (.aload_n 0, 1) := by decide +kernel
theorem dX11_laysCode_1 : decode cX11_laysCode 1 = .ok (.iload_n 2, 1) := by decide +kernel
theorem dX11_laysCode_2 : decode cX11_laysCode 2 = .ok (.putfield 233, 3) := by decide +kernel
theorem dX11_laysCode_5 : decode cX11_laysCode 5 = .ok (.iconst 0, 1) := by decide +kernel
theorem dX11_laysCode_6 : decode cX11_laysCode 6 = .ok (.istore_n 3, 1) := by decide +kernel
theorem dX11_laysCode_7 : decode cX11_laysCode 7 = .ok (.iload_n 3, 1) := by decide +kernel
theorem dX11_laysCode_8 : decode cX11_laysCode 8 = .ok (.iload_n 2, 1) := by decide +kernel
theorem dX11_laysCode_9 : decode cX11_laysCode 9 = .ok (.if_icmp .ge 18, 3) := by decide +kernel
theorem dX11_laysCode_12 : decode cX11_laysCode 12 = .ok (.aload_n 0, 1) := by decide +kernel
theorem dX11_laysCode_13 : decode cX11_laysCode 13 = .ok (.getfield 41, 3) := by decide +kernel
theorem dX11_laysCode_16 : decode cX11_laysCode 16 = .ok (.iload_n 3, 1) := by decide +kernel
theorem dX11_laysCode_17 : decode cX11_laysCode 17 = .ok (.aload_n 1, 1) := by decide +kernel
theorem dX11_laysCode_18 : decode cX11_laysCode 18 = .ok (.iload_n 3, 1) := by decide +kernel
theorem dX11_laysCode_19 : decode cX11_laysCode 19 = .ok (.iaload, 1) := by decide +kernel
theorem dX11_laysCode_20 : decode cX11_laysCode 20 = .ok (.iastore, 1) := by decide +kernel
theorem dX11_laysCode_21 : decode cX11_laysCode 21 = .ok (.iinc 3 1, 3) := by decide +kernel
theorem dX11_laysCode_24 : decode cX11_laysCode 24 = .ok (.goto (-17), 3) := by decide +kernel
theorem dX11_laysCode_27 : decode cX11_laysCode 27 = .ok (.return_, 1) := by decide +kernel
theorem dX11_worked_0 : decode cX11_worked 0 = .ok (.iload_n 0, 1) := by decide +kernel
theorem dX11_worked_1 : decode cX11_worked 1 = .ok (.tableswitch 93 0 5 #[39, 53, 67, 81, 85, 89], 39) := by decide +kernel
theorem dX11_worked_40 : decode cX11_worked 40 = .ok (.iload_n 1, 1) := by decide +kernel
theorem dX11_worked_41 : decode cX11_worked 41 = .ok (.iload_n 2, 1) := by decide +kernel
theorem dX11_worked_42 : decode cX11_worked 42 = .ok (.if_icmp .ge 7, 3) := by decide +kernel
theorem dX11_worked_45 : decode cX11_worked 45 = .ok (.iconst 1, 1) := by decide +kernel
theorem dX11_worked_46 : decode cX11_worked 46 = .ok (.goto 4, 3) := by decide +kernel
theorem dX11_worked_49 : decode cX11_worked 49 = .ok (.iconst 0, 1) := by decide +kernel
theorem dX11_worked_50 : decode cX11_worked 50 = .ok (.invokestatic 138, 3) := by decide +kernel
theorem dX11_worked_53 : decode cX11_worked 53 = .ok (.ireturn, 1) := by decide +kernel
theorem dX11_worked_54 : decode cX11_worked 54 = .ok (.iload_n 1, 1) := by decide +kernel
theorem dX11_worked_55 : decode cX11_worked 55 = .ok (.iload_n 2, 1) := by decide +kernel
theorem dX11_worked_56 : decode cX11_worked 56 = .ok (.if_icmp .le 7, 3) := by decide +kernel
theorem dX11_worked_59 : decode cX11_worked 59 = .ok (.iconst 1, 1) := by decide +kernel
theorem dX11_worked_60 : decode cX11_worked 60 = .ok (.goto 4, 3) := by decide +kernel
theorem dX11_worked_63 : decode cX11_worked 63 = .ok (.iconst 0, 1) := by decide +kernel
theorem dX11_worked_64 : decode cX11_worked 64 = .ok (.invokestatic 138, 3) := by decide +kernel
theorem dX11_worked_67 : decode cX11_worked 67 = .ok (.ireturn, 1) := by decide +kernel
theorem dX11_worked_68 : decode cX11_worked 68 = .ok (.iload_n 1, 1) := by decide +kernel
theorem dX11_worked_69 : decode cX11_worked 69 = .ok (.iload_n 2, 1) := by decide +kernel
theorem dX11_worked_70 : decode cX11_worked 70 = .ok (.if_icmp .ne 7, 3) := by decide +kernel
theorem dX11_worked_73 : decode cX11_worked 73 = .ok (.iconst 1, 1) := by decide +kernel
theorem dX11_worked_74 : decode cX11_worked 74 = .ok (.goto 4, 3) := by decide +kernel
theorem dX11_worked_77 : decode cX11_worked 77 = .ok (.iconst 0, 1) := by decide +kernel
theorem dX11_worked_78 : decode cX11_worked 78 = .ok (.invokestatic 138, 3) := by decide +kernel
theorem dX11_worked_81 : decode cX11_worked 81 = .ok (.ireturn, 1) := by decide +kernel
theorem dX11_worked_82 : decode cX11_worked 82 = .ok (.iload_n 1, 1) := by decide +kernel
theorem dX11_worked_83 : decode cX11_worked 83 = .ok (.iload_n 2, 1) := by decide +kernel
theorem dX11_worked_84 : decode cX11_worked 84 = .ok (.iadd, 1) := by decide +kernel
theorem dX11_worked_85 : decode cX11_worked 85 = .ok (.ireturn, 1) := by decide +kernel
theorem dX11_worked_86 : decode cX11_worked 86 = .ok (.iload_n 1, 1) := by decide +kernel
theorem dX11_worked_87 : decode cX11_worked 87 = .ok (.iload_n 2, 1) := by decide +kernel
theorem dX11_worked_88 : decode cX11_worked 88 = .ok (.isub, 1) := by decide +kernel
theorem dX11_worked_89 : decode cX11_worked 89 = .ok (.ireturn, 1) := by decide +kernel
theorem dX11_worked_90 : decode cX11_worked 90 = .ok (.iload_n 1, 1) := by decide +kernel
theorem dX11_worked_91 : decode cX11_worked 91 = .ok (.iload_n 2, 1) := by decide +kernel
theorem dX11_worked_92 : decode cX11_worked 92 = .ok (.imul, 1) := by decide +kernel
theorem dX11_worked_93 : decode cX11_worked 93 = .ok (.ireturn, 1) := by decide +kernel
theorem dX11_worked_94 : decode cX11_worked 94 = .ok (.iload_n 2, 1) := by decide +kernel
theorem dX11_worked_95 : decode cX11_worked 95 = .ok (.ifCond .ne 7, 3) := by decide +kernel
theorem dX11_worked_98 : decode cX11_worked 98 = .ok (.iconst 0, 1) := by decide +kernel
theorem dX11_worked_99 : decode cX11_worked 99 = .ok (.goto 6, 3) := by decide +kernel
theorem dX11_worked_102 : decode cX11_worked 102 = .ok (.iload_n 1, 1) := by decide +kernel
theorem dX11_worked_103 : decode cX11_worked 103 = .ok (.iload_n 2, 1) := by decide +kernel
theorem dX11_worked_104 : decode cX11_worked 104 = .ok (.idiv, 1) := by decide +kernel
theorem dX11_worked_105 : decode cX11_worked 105 = .ok (.ireturn, 1) := by decide +kernel
theorem dX11_ruled_0 : decode cX11_ruled 0 = .ok (.iconst 0, 1) := by decide +kernel
theorem dX11_ruled_1 : decode cX11_ruled 1 = .ok (.istore_n 1, 1) := by decide +kernel
theorem dX11_ruled_2 : decode cX11_ruled 2 = .ok (.iconst 0, 1) := by decide +kernel
theorem dX11_ruled_3 : decode cX11_ruled 3 = .ok (.istore_n 2, 1) := by decide +kernel
theorem dX11_ruled_4 : decode cX11_ruled 4 = .ok (.iload_n 2, 1) := by decide +kernel
theorem dX11_ruled_5 : decode cX11_ruled 5 = .ok (.aload_n 0, 1) := by decide +kernel
theorem dX11_ruled_6 : decode cX11_ruled 6 = .ok (.getfield 233, 3) := by decide +kernel
theorem dX11_ruled_9 : decode cX11_ruled 9 = .ok (.if_icmp .ge 116, 3) := by decide +kernel
theorem dX11_ruled_12 : decode cX11_ruled 12 = .ok (.aload_n 0, 1) := by decide +kernel
theorem dX11_ruled_13 : decode cX11_ruled 13 = .ok (.getfield 41, 3) := by decide +kernel
theorem dX11_ruled_16 : decode cX11_ruled 16 = .ok (.iload_n 2, 1) := by decide +kernel
theorem dX11_ruled_17 : decode cX11_ruled 17 = .ok (.iaload, 1) := by decide +kernel
theorem dX11_ruled_18 : decode cX11_ruled 18 = .ok (.istore_n 3, 1) := by decide +kernel
theorem dX11_ruled_19 : decode cX11_ruled 19 = .ok (.iload_n 3, 1) := by decide +kernel
theorem dX11_ruled_20 : decode cX11_ruled 20 = .ok (.sipush 3000, 3) := by decide +kernel
theorem dX11_ruled_23 : decode cX11_ruled 23 = .ok (.if_icmp .ne 23, 3) := by decide +kernel
theorem dX11_ruled_26 : decode cX11_ruled 26 = .ok (.aload_n 0, 1) := by decide +kernel
theorem dX11_ruled_27 : decode cX11_ruled 27 = .ok (.getfield 47, 3) := by decide +kernel
theorem dX11_ruled_30 : decode cX11_ruled 30 = .ok (.iload_n 1, 1) := by decide +kernel
theorem dX11_ruled_31 : decode cX11_ruled 31 = .ok (.iconst 1, 1) := by decide +kernel
theorem dX11_ruled_32 : decode cX11_ruled 32 = .ok (.isub, 1) := by decide +kernel
theorem dX11_ruled_33 : decode cX11_ruled 33 = .ok (.aload_n 0, 1) := by decide +kernel
theorem dX11_ruled_34 : decode cX11_ruled 34 = .ok (.getfield 47, 3) := by decide +kernel
theorem dX11_ruled_37 : decode cX11_ruled 37 = .ok (.iload_n 1, 1) := by decide +kernel
theorem dX11_ruled_38 : decode cX11_ruled 38 = .ok (.iconst 1, 1) := by decide +kernel
theorem dX11_ruled_39 : decode cX11_ruled 39 = .ok (.isub, 1) := by decide +kernel
theorem dX11_ruled_40 : decode cX11_ruled 40 = .ok (.iaload, 1) := by decide +kernel
theorem dX11_ruled_41 : decode cX11_ruled 41 = .ok (.ineg, 1) := by decide +kernel
theorem dX11_ruled_42 : decode cX11_ruled 42 = .ok (.iastore, 1) := by decide +kernel
theorem dX11_ruled_43 : decode cX11_ruled 43 = .ok (.goto 76, 3) := by decide +kernel
theorem dX11_ruled_46 : decode cX11_ruled 46 = .ok (.iload_n 3, 1) := by decide +kernel
theorem dX11_ruled_47 : decode cX11_ruled 47 = .ok (.sipush 2000, 3) := by decide +kernel
theorem dX11_ruled_50 : decode cX11_ruled 50 = .ok (.if_icmp .lt 39, 3) := by decide +kernel
theorem dX11_ruled_53 : decode cX11_ruled 53 = .ok (.iinc 1 (-1), 3) := by decide +kernel
theorem dX11_ruled_56 : decode cX11_ruled 56 = .ok (.aload_n 0, 1) := by decide +kernel
theorem dX11_ruled_57 : decode cX11_ruled 57 = .ok (.getfield 47, 3) := by decide +kernel
theorem dX11_ruled_60 : decode cX11_ruled 60 = .ok (.iload_n 1, 1) := by decide +kernel
theorem dX11_ruled_61 : decode cX11_ruled 61 = .ok (.iconst 1, 1) := by decide +kernel
theorem dX11_ruled_62 : decode cX11_ruled 62 = .ok (.isub, 1) := by decide +kernel
theorem dX11_ruled_63 : decode cX11_ruled 63 = .ok (.iload_n 3, 1) := by decide +kernel
theorem dX11_ruled_64 : decode cX11_ruled 64 = .ok (.sipush 2000, 3) := by decide +kernel
theorem dX11_ruled_67 : decode cX11_ruled 67 = .ok (.isub, 1) := by decide +kernel
theorem dX11_ruled_68 : decode cX11_ruled 68 = .ok (.aload_n 0, 1) := by decide +kernel
theorem dX11_ruled_69 : decode cX11_ruled 69 = .ok (.getfield 47, 3) := by decide +kernel
theorem dX11_ruled_72 : decode cX11_ruled 72 = .ok (.iload_n 1, 1) := by decide +kernel
theorem dX11_ruled_73 : decode cX11_ruled 73 = .ok (.iconst 1, 1) := by decide +kernel
theorem dX11_ruled_74 : decode cX11_ruled 74 = .ok (.isub, 1) := by decide +kernel
theorem dX11_ruled_75 : decode cX11_ruled 75 = .ok (.iaload, 1) := by decide +kernel
theorem dX11_ruled_76 : decode cX11_ruled 76 = .ok (.aload_n 0, 1) := by decide +kernel
theorem dX11_ruled_77 : decode cX11_ruled 77 = .ok (.getfield 47, 3) := by decide +kernel
theorem dX11_ruled_80 : decode cX11_ruled 80 = .ok (.iload_n 1, 1) := by decide +kernel
theorem dX11_ruled_81 : decode cX11_ruled 81 = .ok (.iaload, 1) := by decide +kernel
theorem dX11_ruled_82 : decode cX11_ruled 82 = .ok (.invokestatic 236, 3) := by decide +kernel
theorem dX11_ruled_85 : decode cX11_ruled 85 = .ok (.iastore, 1) := by decide +kernel
theorem dX11_ruled_86 : decode cX11_ruled 86 = .ok (.goto 33, 3) := by decide +kernel
theorem dX11_ruled_89 : decode cX11_ruled 89 = .ok (.aload_n 0, 1) := by decide +kernel
theorem dX11_ruled_90 : decode cX11_ruled 90 = .ok (.getfield 47, 3) := by decide +kernel
theorem dX11_ruled_93 : decode cX11_ruled 93 = .ok (.iload_n 1, 1) := by decide +kernel
theorem dX11_ruled_94 : decode cX11_ruled 94 = .ok (.iload_n 3, 1) := by decide +kernel
theorem dX11_ruled_95 : decode cX11_ruled 95 = .ok (.sipush 1000, 3) := by decide +kernel
theorem dX11_ruled_98 : decode cX11_ruled 98 = .ok (.if_icmp .lt 16, 3) := by decide +kernel
theorem dX11_ruled_101 : decode cX11_ruled 101 = .ok (.aload_n 0, 1) := by decide +kernel
theorem dX11_ruled_102 : decode cX11_ruled 102 = .ok (.getfield 50, 3) := by decide +kernel
theorem dX11_ruled_105 : decode cX11_ruled 105 = .ok (.iload_n 3, 1) := by decide +kernel
theorem dX11_ruled_106 : decode cX11_ruled 106 = .ok (.sipush 1000, 3) := by decide +kernel
theorem dX11_ruled_109 : decode cX11_ruled 109 = .ok (.isub, 1) := by decide +kernel
theorem dX11_ruled_110 : decode cX11_ruled 110 = .ok (.iaload, 1) := by decide +kernel
theorem dX11_ruled_111 : decode cX11_ruled 111 = .ok (.goto 4, 3) := by decide +kernel
theorem dX11_ruled_114 : decode cX11_ruled 114 = .ok (.iload_n 3, 1) := by decide +kernel
theorem dX11_ruled_115 : decode cX11_ruled 115 = .ok (.iastore, 1) := by decide +kernel
theorem dX11_ruled_116 : decode cX11_ruled 116 = .ok (.iinc 1 1, 3) := by decide +kernel
theorem dX11_ruled_119 : decode cX11_ruled 119 = .ok (.iinc 2 1, 3) := by decide +kernel
theorem dX11_ruled_122 : decode cX11_ruled 122 = .ok (.goto (-118), 3) := by decide +kernel
theorem dX11_ruled_125 : decode cX11_ruled 125 = .ok (.aload_n 0, 1) := by decide +kernel
theorem dX11_ruled_126 : decode cX11_ruled 126 = .ok (.getfield 233, 3) := by decide +kernel
theorem dX11_ruled_129 : decode cX11_ruled 129 = .ok (.ifCond .ne 38, 3) := by decide +kernel
theorem dX11_ruled_132 : decode cX11_ruled 132 = .ok (.bipush 10, 2) := by decide +kernel
theorem dX11_ruled_134 : decode cX11_ruled 134 = .ok (.aload_n 0, 1) := by decide +kernel
theorem dX11_ruled_135 : decode cX11_ruled 135 = .ok (.getfield 50, 3) := by decide +kernel
theorem dX11_ruled_138 : decode cX11_ruled 138 = .ok (.iconst 0, 1) := by decide +kernel
theorem dX11_ruled_139 : decode cX11_ruled 139 = .ok (.iaload, 1) := by decide +kernel
theorem dX11_ruled_140 : decode cX11_ruled 140 = .ok (.imul, 1) := by decide +kernel
theorem dX11_ruled_141 : decode cX11_ruled 141 = .ok (.aload_n 0, 1) := by decide +kernel
theorem dX11_ruled_142 : decode cX11_ruled 142 = .ok (.getfield 50, 3) := by decide +kernel
theorem dX11_ruled_145 : decode cX11_ruled 145 = .ok (.iconst 1, 1) := by decide +kernel
theorem dX11_ruled_146 : decode cX11_ruled 146 = .ok (.iaload, 1) := by decide +kernel
theorem dX11_ruled_147 : decode cX11_ruled 147 = .ok (.isub, 1) := by decide +kernel
theorem dX11_ruled_148 : decode cX11_ruled 148 = .ok (.iconst 3, 1) := by decide +kernel
theorem dX11_ruled_149 : decode cX11_ruled 149 = .ok (.aload_n 0, 1) := by decide +kernel
theorem dX11_ruled_150 : decode cX11_ruled 150 = .ok (.getfield 50, 3) := by decide +kernel
theorem dX11_ruled_153 : decode cX11_ruled 153 = .ok (.iconst 3, 1) := by decide +kernel
theorem dX11_ruled_154 : decode cX11_ruled 154 = .ok (.iaload, 1) := by decide +kernel
theorem dX11_ruled_155 : decode cX11_ruled 155 = .ok (.imul, 1) := by decide +kernel
theorem dX11_ruled_156 : decode cX11_ruled 156 = .ok (.isub, 1) := by decide +kernel
theorem dX11_ruled_157 : decode cX11_ruled 157 = .ok (.aload_n 0, 1) := by decide +kernel
theorem dX11_ruled_158 : decode cX11_ruled 158 = .ok (.getfield 50, 3) := by decide +kernel
theorem dX11_ruled_161 : decode cX11_ruled 161 = .ok (.iconst 4, 1) := by decide +kernel
theorem dX11_ruled_162 : decode cX11_ruled 162 = .ok (.iaload, 1) := by decide +kernel
theorem dX11_ruled_163 : decode cX11_ruled 163 = .ok (.isub, 1) := by decide +kernel
theorem dX11_ruled_164 : decode cX11_ruled 164 = .ok (.goto 9, 3) := by decide +kernel
theorem dX11_ruled_167 : decode cX11_ruled 167 = .ok (.aload_n 0, 1) := by decide +kernel
theorem dX11_ruled_168 : decode cX11_ruled 168 = .ok (.getfield 47, 3) := by decide +kernel
theorem dX11_ruled_171 : decode cX11_ruled 171 = .ok (.iconst 0, 1) := by decide +kernel
theorem dX11_ruled_172 : decode cX11_ruled 172 = .ok (.iaload, 1) := by decide +kernel
theorem dX11_ruled_173 : decode cX11_ruled 173 = .ok (.ireturn, 1) := by decide +kernel
theorem dX11_sumOf_0 : decode cX11_sumOf 0 = .ok (.iconst 0, 1) := by decide +kernel
theorem dX11_sumOf_1 : decode cX11_sumOf 1 = .ok (.istore_n 3, 1) := by decide +kernel
theorem dX11_sumOf_2 : decode cX11_sumOf 2 = .ok (.iconst 0, 1) := by decide +kernel
theorem dX11_sumOf_3 : decode cX11_sumOf 3 = .ok (.istore 4, 2) := by decide +kernel
theorem dX11_sumOf_5 : decode cX11_sumOf 5 = .ok (.iload 4, 2) := by decide +kernel
theorem dX11_sumOf_7 : decode cX11_sumOf 7 = .ok (.aload_n 0, 1) := by decide +kernel
theorem dX11_sumOf_8 : decode cX11_sumOf 8 = .ok (.getfield 113, 3) := by decide +kernel
theorem dX11_sumOf_11 : decode cX11_sumOf 11 = .ok (.if_icmp .ge 29, 3) := by decide +kernel
theorem dX11_sumOf_14 : decode cX11_sumOf 14 = .ok (.iload_n 3, 1) := by decide +kernel
theorem dX11_sumOf_15 : decode cX11_sumOf 15 = .ok (.iload_n 1, 1) := by decide +kernel
theorem dX11_sumOf_16 : decode cX11_sumOf 16 = .ok (.iload 4, 2) := by decide +kernel
theorem dX11_sumOf_18 : decode cX11_sumOf 18 = .ok (.invokestatic 240, 3) := by decide +kernel
theorem dX11_sumOf_21 : decode cX11_sumOf 21 = .ok (.ifCond .eq 10, 3) := by decide +kernel
theorem dX11_sumOf_24 : decode cX11_sumOf 24 = .ok (.aload_n 2, 1) := by decide +kernel
theorem dX11_sumOf_25 : decode cX11_sumOf 25 = .ok (.iload 4, 2) := by decide +kernel
theorem dX11_sumOf_27 : decode cX11_sumOf 27 = .ok (.iaload, 1) := by decide +kernel
theorem dX11_sumOf_28 : decode cX11_sumOf 28 = .ok (.goto 4, 3) := by decide +kernel
theorem dX11_sumOf_31 : decode cX11_sumOf 31 = .ok (.iconst 0, 1) := by decide +kernel
theorem dX11_sumOf_32 : decode cX11_sumOf 32 = .ok (.iadd, 1) := by decide +kernel
theorem dX11_sumOf_33 : decode cX11_sumOf 33 = .ok (.istore_n 3, 1) := by decide +kernel
theorem dX11_sumOf_34 : decode cX11_sumOf 34 = .ok (.iinc 4 1, 3) := by decide +kernel
theorem dX11_sumOf_37 : decode cX11_sumOf 37 = .ok (.goto (-32), 3) := by decide +kernel
theorem dX11_sumOf_40 : decode cX11_sumOf 40 = .ok (.iload_n 3, 1) := by decide +kernel
theorem dX11_sumOf_41 : decode cX11_sumOf 41 = .ok (.ireturn, 1) := by decide +kernel
theorem dX11_loudBy_0 : decode cX11_loudBy 0 = .ok (.iload_n 2, 1) := by decide +kernel
theorem dX11_loudBy_1 : decode cX11_loudBy 1 = .ok (.ifCond .eq 10, 3) := by decide +kernel
theorem dX11_loudBy_4 : decode cX11_loudBy 4 = .ok (.aload_n 1, 1) := by decide +kernel
theorem dX11_loudBy_5 : decode cX11_loudBy 5 = .ok (.bipush 9, 2) := by decide +kernel
theorem dX11_loudBy_7 : decode cX11_loudBy 7 = .ok (.iaload, 1) := by decide +kernel
theorem dX11_loudBy_8 : decode cX11_loudBy 8 = .ok (.ifCond .ne 5, 3) := by decide +kernel
theorem dX11_loudBy_11 : decode cX11_loudBy 11 = .ok (.iconst 0, 1) := by decide +kernel
theorem dX11_loudBy_12 : decode cX11_loudBy 12 = .ok (.ireturn, 1) := by decide +kernel
theorem dX11_loudBy_13 : decode cX11_loudBy 13 = .ok (.aload_n 0, 1) := by decide +kernel
theorem dX11_loudBy_14 : decode cX11_loudBy 14 = .ok (.getfield 50, 3) := by decide +kernel
theorem dX11_loudBy_17 : decode cX11_loudBy 17 = .ok (.iconst 0, 1) := by decide +kernel
theorem dX11_loudBy_18 : decode cX11_loudBy 18 = .ok (.aload_n 0, 1) := by decide +kernel
theorem dX11_loudBy_19 : decode cX11_loudBy 19 = .ok (.iload_n 2, 1) := by decide +kernel
theorem dX11_loudBy_20 : decode cX11_loudBy 20 = .ok (.aload_n 0, 1) := by decide +kernel
theorem dX11_loudBy_21 : decode cX11_loudBy 21 = .ok (.getfield 13, 3) := by decide +kernel
theorem dX11_loudBy_24 : decode cX11_loudBy 24 = .ok (.invokevirtual 244, 3) := by decide +kernel
theorem dX11_loudBy_27 : decode cX11_loudBy 27 = .ok (.iastore, 1) := by decide +kernel
theorem dX11_loudBy_28 : decode cX11_loudBy 28 = .ok (.aload_n 0, 1) := by decide +kernel
theorem dX11_loudBy_29 : decode cX11_loudBy 29 = .ok (.getfield 50, 3) := by decide +kernel
theorem dX11_loudBy_32 : decode cX11_loudBy 32 = .ok (.iconst 1, 1) := by decide +kernel
theorem dX11_loudBy_33 : decode cX11_loudBy 33 = .ok (.iload_n 3, 1) := by decide +kernel
theorem dX11_loudBy_34 : decode cX11_loudBy 34 = .ok (.iastore, 1) := by decide +kernel
theorem dX11_loudBy_35 : decode cX11_loudBy 35 = .ok (.aload_n 0, 1) := by decide +kernel
theorem dX11_loudBy_36 : decode cX11_loudBy 36 = .ok (.getfield 50, 3) := by decide +kernel
theorem dX11_loudBy_39 : decode cX11_loudBy 39 = .ok (.iconst 2, 1) := by decide +kernel
theorem dX11_loudBy_40 : decode cX11_loudBy 40 = .ok (.iload_n 2, 1) := by decide +kernel
theorem dX11_loudBy_41 : decode cX11_loudBy 41 = .ok (.invokestatic 248, 3) := by decide +kernel
theorem dX11_loudBy_44 : decode cX11_loudBy 44 = .ok (.iastore, 1) := by decide +kernel
theorem dX11_loudBy_45 : decode cX11_loudBy 45 = .ok (.aload_n 0, 1) := by decide +kernel
theorem dX11_loudBy_46 : decode cX11_loudBy 46 = .ok (.getfield 50, 3) := by decide +kernel
theorem dX11_loudBy_49 : decode cX11_loudBy 49 = .ok (.iconst 3, 1) := by decide +kernel
theorem dX11_loudBy_50 : decode cX11_loudBy 50 = .ok (.aload_n 0, 1) := by decide +kernel
theorem dX11_loudBy_51 : decode cX11_loudBy 51 = .ok (.getfield 26, 3) := by decide +kernel
theorem dX11_loudBy_54 : decode cX11_loudBy 54 = .ok (.iconst 0, 1) := by decide +kernel
theorem dX11_loudBy_55 : decode cX11_loudBy 55 = .ok (.iaload, 1) := by decide +kernel
theorem dX11_loudBy_56 : decode cX11_loudBy 56 = .ok (.iastore, 1) := by decide +kernel
theorem dX11_loudBy_57 : decode cX11_loudBy 57 = .ok (.aload_n 0, 1) := by decide +kernel
theorem dX11_loudBy_58 : decode cX11_loudBy 58 = .ok (.getfield 50, 3) := by decide +kernel
theorem dX11_loudBy_61 : decode cX11_loudBy 61 = .ok (.iconst 4, 1) := by decide +kernel
theorem dX11_loudBy_62 : decode cX11_loudBy 62 = .ok (.aload_n 0, 1) := by decide +kernel
theorem dX11_loudBy_63 : decode cX11_loudBy 63 = .ok (.getfield 26, 3) := by decide +kernel
theorem dX11_loudBy_66 : decode cX11_loudBy 66 = .ok (.iconst 1, 1) := by decide +kernel
theorem dX11_loudBy_67 : decode cX11_loudBy 67 = .ok (.iaload, 1) := by decide +kernel
theorem dX11_loudBy_68 : decode cX11_loudBy 68 = .ok (.iastore, 1) := by decide +kernel
theorem dX11_loudBy_69 : decode cX11_loudBy 69 = .ok (.aload_n 0, 1) := by decide +kernel
theorem dX11_loudBy_70 : decode cX11_loudBy 70 = .ok (.getfield 50, 3) := by decide +kernel
theorem dX11_loudBy_73 : decode cX11_loudBy 73 = .ok (.iconst 5, 1) := by decide +kernel
theorem dX11_loudBy_74 : decode cX11_loudBy 74 = .ok (.aload_n 1, 1) := by decide +kernel
theorem dX11_loudBy_75 : decode cX11_loudBy 75 = .ok (.bipush 9, 2) := by decide +kernel
theorem dX11_loudBy_77 : decode cX11_loudBy 77 = .ok (.iaload, 1) := by decide +kernel
theorem dX11_loudBy_78 : decode cX11_loudBy 78 = .ok (.iastore, 1) := by decide +kernel
theorem dX11_loudBy_79 : decode cX11_loudBy 79 = .ok (.aload_n 0, 1) := by decide +kernel
theorem dX11_loudBy_80 : decode cX11_loudBy 80 = .ok (.getfield 50, 3) := by decide +kernel
theorem dX11_loudBy_83 : decode cX11_loudBy 83 = .ok (.bipush 6, 2) := by decide +kernel
theorem dX11_loudBy_85 : decode cX11_loudBy 85 = .ok (.aload_n 1, 1) := by decide +kernel
theorem dX11_loudBy_86 : decode cX11_loudBy 86 = .ok (.bipush 10, 2) := by decide +kernel
theorem dX11_loudBy_88 : decode cX11_loudBy 88 = .ok (.iaload, 1) := by decide +kernel
theorem dX11_loudBy_89 : decode cX11_loudBy 89 = .ok (.bipush 60, 2) := by decide +kernel
theorem dX11_loudBy_91 : decode cX11_loudBy 91 = .ok (.irem, 1) := by decide +kernel
theorem dX11_loudBy_92 : decode cX11_loudBy 92 = .ok (.iastore, 1) := by decide +kernel
theorem dX11_loudBy_93 : decode cX11_loudBy 93 = .ok (.aload_n 0, 1) := by decide +kernel
theorem dX11_loudBy_94 : decode cX11_loudBy 94 = .ok (.invokevirtual 253, 3) := by decide +kernel
theorem dX11_loudBy_97 : decode cX11_loudBy 97 = .ok (.ireturn, 1) := by decide +kernel
theorem dX11_loudOf_0 : decode cX11_loudOf 0 = .ok (.aload_n 0, 1) := by decide +kernel
theorem dX11_loudOf_1 : decode cX11_loudOf 1 = .ok (.aload_n 1, 1) := by decide +kernel
theorem dX11_loudOf_2 : decode cX11_loudOf 2 = .ok (.iload_n 2, 1) := by decide +kernel
theorem dX11_loudOf_3 : decode cX11_loudOf 3 = .ok (.aload_n 0, 1) := by decide +kernel
theorem dX11_loudOf_4 : decode cX11_loudOf 4 = .ok (.iload_n 2, 1) := by decide +kernel
theorem dX11_loudOf_5 : decode cX11_loudOf 5 = .ok (.aload_n 1, 1) := by decide +kernel
theorem dX11_loudOf_6 : decode cX11_loudOf 6 = .ok (.invokevirtual 244, 3) := by decide +kernel
theorem dX11_loudOf_9 : decode cX11_loudOf 9 = .ok (.invokevirtual 256, 3) := by decide +kernel
theorem dX11_loudOf_12 : decode cX11_loudOf 12 = .ok (.ireturn, 1) := by decide +kernel
theorem dX11_ringer_0 : decode cX11_ringer 0 = .ok (.aload_n 0, 1) := by decide +kernel
theorem dX11_ringer_1 : decode cX11_ringer 1 = .ok (.iconst 0, 1) := by decide +kernel
theorem dX11_ringer_2 : decode cX11_ringer 2 = .ok (.putfield 102, 3) := by decide +kernel
theorem dX11_ringer_5 : decode cX11_ringer 5 = .ok (.aload_n 0, 1) := by decide +kernel
theorem dX11_ringer_6 : decode cX11_ringer 6 = .ok (.iload_n 1, 1) := by decide +kernel
theorem dX11_ringer_7 : decode cX11_ringer 7 = .ok (.invokevirtual 260, 3) := by decide +kernel
theorem dX11_ringer_10 : decode cX11_ringer 10 = .ok (.ifCond .eq 15, 3) := by decide +kernel
theorem dX11_ringer_13 : decode cX11_ringer 13 = .ok (.iload_n 2, 1) := by decide +kernel
theorem dX11_ringer_14 : decode cX11_ringer 14 = .ok (.i2l, 1) := by decide +kernel
theorem dX11_ringer_15 : decode cX11_ringer 15 = .ok (.lconst 0, 1) := by decide +kernel
theorem dX11_ringer_16 : decode cX11_ringer 16 = .ok (.ldc2_w 263, 3) := by decide +kernel
theorem dX11_ringer_19 : decode cX11_ringer 19 = .ok (.invokestatic 116, 3) := by decide +kernel
theorem dX11_ringer_22 : decode cX11_ringer 22 = .ok (.ifCond .ne 8, 3) := by decide +kernel
theorem dX11_ringer_25 : decode cX11_ringer 25 = .ok (.aload_n 0, 1) := by decide +kernel
theorem dX11_ringer_26 : decode cX11_ringer 26 = .ok (.invokevirtual 265, 3) := by decide +kernel
theorem dX11_ringer_29 : decode cX11_ringer 29 = .ok (.ireturn, 1) := by decide +kernel
theorem dX11_ringer_30 : decode cX11_ringer 30 = .ok (.iload_n 2, 1) := by decide +kernel
theorem dX11_ringer_31 : decode cX11_ringer 31 = .ok (.tableswitch 65 0 3 #[29, 36, 43, 50], 29) := by decide +kernel
theorem dX11_ringer_60 : decode cX11_ringer 60 = .ok (.aload_n 0, 1) := by decide +kernel
theorem dX11_ringer_61 : decode cX11_ringer 61 = .ok (.getfield 13, 3) := by decide +kernel
theorem dX11_ringer_64 : decode cX11_ringer 64 = .ok (.iload_n 1, 1) := by decide +kernel
theorem dX11_ringer_65 : decode cX11_ringer 65 = .ok (.iaload, 1) := by decide +kernel
theorem dX11_ringer_66 : decode cX11_ringer 66 = .ok (.ireturn, 1) := by decide +kernel
theorem dX11_ringer_67 : decode cX11_ringer 67 = .ok (.aload_n 0, 1) := by decide +kernel
theorem dX11_ringer_68 : decode cX11_ringer 68 = .ok (.getfield 17, 3) := by decide +kernel
theorem dX11_ringer_71 : decode cX11_ringer 71 = .ok (.iload_n 1, 1) := by decide +kernel
theorem dX11_ringer_72 : decode cX11_ringer 72 = .ok (.iaload, 1) := by decide +kernel
theorem dX11_ringer_73 : decode cX11_ringer 73 = .ok (.ireturn, 1) := by decide +kernel
theorem dX11_ringer_74 : decode cX11_ringer 74 = .ok (.aload_n 0, 1) := by decide +kernel
theorem dX11_ringer_75 : decode cX11_ringer 75 = .ok (.getfield 29, 3) := by decide +kernel
theorem dX11_ringer_78 : decode cX11_ringer 78 = .ok (.iload_n 1, 1) := by decide +kernel
theorem dX11_ringer_79 : decode cX11_ringer 79 = .ok (.iaload, 1) := by decide +kernel
theorem dX11_ringer_80 : decode cX11_ringer 80 = .ok (.ireturn, 1) := by decide +kernel
theorem dX11_ringer_81 : decode cX11_ringer 81 = .ok (.aload_n 0, 1) := by decide +kernel
theorem dX11_ringer_82 : decode cX11_ringer 82 = .ok (.getfield 29, 3) := by decide +kernel
theorem dX11_ringer_85 : decode cX11_ringer 85 = .ok (.bipush 8, 2) := by decide +kernel
theorem dX11_ringer_87 : decode cX11_ringer 87 = .ok (.iaload, 1) := by decide +kernel
theorem dX11_ringer_88 : decode cX11_ringer 88 = .ok (.iload_n 1, 1) := by decide +kernel
theorem dX11_ringer_89 : decode cX11_ringer 89 = .ok (.invokestatic 240, 3) := by decide +kernel
theorem dX11_ringer_92 : decode cX11_ringer 92 = .ok (.invokestatic 138, 3) := by decide +kernel
theorem dX11_ringer_95 : decode cX11_ringer 95 = .ok (.ireturn, 1) := by decide +kernel
theorem dX11_ringer_96 : decode cX11_ringer 96 = .ok (.aload_n 0, 1) := by decide +kernel
theorem dX11_ringer_97 : decode cX11_ringer 97 = .ok (.aload_n 0, 1) := by decide +kernel
theorem dX11_ringer_98 : decode cX11_ringer 98 = .ok (.getfield 29, 3) := by decide +kernel
theorem dX11_ringer_101 : decode cX11_ringer 101 = .ok (.iconst 1, 1) := by decide +kernel
theorem dX11_ringer_102 : decode cX11_ringer 102 = .ok (.iload_n 1, 1) := by decide +kernel
theorem dX11_ringer_103 : decode cX11_ringer 103 = .ok (.ishl, 1) := by decide +kernel
theorem dX11_ringer_104 : decode cX11_ringer 104 = .ok (.invokevirtual 268, 3) := by decide +kernel
theorem dX11_ringer_107 : decode cX11_ringer 107 = .ok (.ireturn, 1) := by decide +kernel
theorem dX11_person_0 : decode cX11_person 0 = .ok (.aload_n 0, 1) := by decide +kernel
theorem dX11_person_1 : decode cX11_person 1 = .ok (.iconst 0, 1) := by decide +kernel
theorem dX11_person_2 : decode cX11_person 2 = .ok (.putfield 102, 3) := by decide +kernel
theorem dX11_person_5 : decode cX11_person 5 = .ok (.iload_n 1, 1) := by decide +kernel
theorem dX11_person_6 : decode cX11_person 6 = .ok (.i2l, 1) := by decide +kernel
theorem dX11_person_7 : decode cX11_person 7 = .ok (.lconst 0, 1) := by decide +kernel
theorem dX11_person_8 : decode cX11_person 8 = .ok (.aload_n 0, 1) := by decide +kernel
theorem dX11_person_9 : decode cX11_person 9 = .ok (.getfield 202, 3) := by decide +kernel
theorem dX11_person_12 : decode cX11_person 12 = .ok (.iconst 1, 1) := by decide +kernel
theorem dX11_person_13 : decode cX11_person 13 = .ok (.isub, 1) := by decide +kernel
theorem dX11_person_14 : decode cX11_person 14 = .ok (.i2l, 1) := by decide +kernel
theorem dX11_person_15 : decode cX11_person 15 = .ok (.invokestatic 116, 3) := by decide +kernel
theorem dX11_person_18 : decode cX11_person 18 = .ok (.ifCond .eq 15, 3) := by decide +kernel
theorem dX11_person_21 : decode cX11_person 21 = .ok (.iload_n 2, 1) := by decide +kernel
theorem dX11_person_22 : decode cX11_person 22 = .ok (.i2l, 1) := by decide +kernel
theorem dX11_person_23 : decode cX11_person 23 = .ok (.lconst 0, 1) := by decide +kernel
theorem dX11_person_24 : decode cX11_person 24 = .ok (.ldc2_w 272, 3) := by decide +kernel
theorem dX11_person_27 : decode cX11_person 27 = .ok (.invokestatic 116, 3) := by decide +kernel
theorem dX11_person_30 : decode cX11_person 30 = .ok (.ifCond .ne 8, 3) := by decide +kernel
theorem dX11_person_33 : decode cX11_person 33 = .ok (.aload_n 0, 1) := by decide +kernel
theorem dX11_person_34 : decode cX11_person 34 = .ok (.invokevirtual 265, 3) := by decide +kernel
theorem dX11_person_37 : decode cX11_person 37 = .ok (.ireturn, 1) := by decide +kernel
theorem dX11_person_38 : decode cX11_person 38 = .ok (.iload_n 2, 1) := by decide +kernel
theorem dX11_person_39 : decode cX11_person 39 = .ok (.ifCond .ne 12, 3) := by decide +kernel
theorem dX11_person_42 : decode cX11_person 42 = .ok (.aload_n 0, 1) := by decide +kernel
theorem dX11_person_43 : decode cX11_person 43 = .ok (.getfield 20, 3) := by decide +kernel
theorem dX11_person_46 : decode cX11_person 46 = .ok (.iload_n 1, 1) := by decide +kernel
theorem dX11_person_47 : decode cX11_person 47 = .ok (.iaload, 1) := by decide +kernel
theorem dX11_person_48 : decode cX11_person 48 = .ok (.goto 31, 3) := by decide +kernel
theorem dX11_person_51 : decode cX11_person 51 = .ok (.iload_n 2, 1) := by decide +kernel
theorem dX11_person_52 : decode cX11_person 52 = .ok (.iconst 1, 1) := by decide +kernel
theorem dX11_person_53 : decode cX11_person 53 = .ok (.if_icmp .ne 12, 3) := by decide +kernel
theorem dX11_person_56 : decode cX11_person 56 = .ok (.aload_n 0, 1) := by decide +kernel
theorem dX11_person_57 : decode cX11_person 57 = .ok (.getfield 23, 3) := by decide +kernel
theorem dX11_person_60 : decode cX11_person 60 = .ok (.iload_n 1, 1) := by decide +kernel
theorem dX11_person_61 : decode cX11_person 61 = .ok (.iaload, 1) := by decide +kernel
theorem dX11_person_62 : decode cX11_person 62 = .ok (.goto 17, 3) := by decide +kernel
theorem dX11_person_65 : decode cX11_person 65 = .ok (.aload_n 0, 1) := by decide +kernel
theorem dX11_person_66 : decode cX11_person 66 = .ok (.getfield 29, 3) := by decide +kernel
theorem dX11_person_69 : decode cX11_person 69 = .ok (.bipush 15, 2) := by decide +kernel
theorem dX11_person_71 : decode cX11_person 71 = .ok (.iaload, 1) := by decide +kernel
theorem dX11_person_72 : decode cX11_person 72 = .ok (.iload_n 1, 1) := by decide +kernel
theorem dX11_person_73 : decode cX11_person 73 = .ok (.invokestatic 240, 3) := by decide +kernel
theorem dX11_person_76 : decode cX11_person 76 = .ok (.invokestatic 138, 3) := by decide +kernel
theorem dX11_person_79 : decode cX11_person 79 = .ok (.ireturn, 1) := by decide +kernel
theorem dX11_loud_0 : decode cX11_loud 0 = .ok (.aload_n 0, 1) := by decide +kernel
theorem dX11_loud_1 : decode cX11_loud 1 = .ok (.iconst 0, 1) := by decide +kernel
theorem dX11_loud_2 : decode cX11_loud 2 = .ok (.putfield 102, 3) := by decide +kernel
theorem dX11_loud_5 : decode cX11_loud 5 = .ok (.aload_n 0, 1) := by decide +kernel
theorem dX11_loud_6 : decode cX11_loud 6 = .ok (.aload_n 0, 1) := by decide +kernel
theorem dX11_loud_7 : decode cX11_loud 7 = .ok (.getfield 29, 3) := by decide +kernel
theorem dX11_loud_10 : decode cX11_loud 10 = .ok (.aload_n 0, 1) := by decide +kernel
theorem dX11_loud_11 : decode cX11_loud 11 = .ok (.getfield 29, 3) := by decide +kernel
theorem dX11_loud_14 : decode cX11_loud 14 = .ok (.bipush 8, 2) := by decide +kernel
theorem dX11_loud_16 : decode cX11_loud 16 = .ok (.iaload, 1) := by decide +kernel
theorem dX11_loud_17 : decode cX11_loud 17 = .ok (.invokevirtual 268, 3) := by decide +kernel
theorem dX11_loud_20 : decode cX11_loud 20 = .ok (.ireturn, 1) := by decide +kernel
theorem dX11_set_0 : decode cX11_set 0 = .ok (.aload_n 0, 1) := by decide +kernel
theorem dX11_set_1 : decode cX11_set 1 = .ok (.iconst 0, 1) := by decide +kernel
theorem dX11_set_2 : decode cX11_set 2 = .ok (.putfield 102, 3) := by decide +kernel
theorem dX11_set_5 : decode cX11_set 5 = .ok (.iload_n 1, 1) := by decide +kernel
theorem dX11_set_6 : decode cX11_set 6 = .ok (.i2l, 1) := by decide +kernel
theorem dX11_set_7 : decode cX11_set 7 = .ok (.lconst 0, 1) := by decide +kernel
theorem dX11_set_8 : decode cX11_set 8 = .ok (.ldc2_w 272, 3) := by decide +kernel
theorem dX11_set_11 : decode cX11_set 11 = .ok (.invokestatic 116, 3) := by decide +kernel
theorem dX11_set_14 : decode cX11_set 14 = .ok (.ifCond .eq 33, 3) := by decide +kernel
theorem dX11_set_17 : decode cX11_set 17 = .ok (.iload_n 2, 1) := by decide +kernel
theorem dX11_set_18 : decode cX11_set 18 = .ok (.i2l, 1) := by decide +kernel
theorem dX11_set_19 : decode cX11_set 19 = .ok (.iload_n 1, 1) := by decide +kernel
theorem dX11_set_20 : decode cX11_set 20 = .ok (.ifCond .ne 7, 3) := by decide +kernel
theorem dX11_set_23 : decode cX11_set 23 = .ok (.lconst 1, 1) := by decide +kernel
theorem dX11_set_24 : decode cX11_set 24 = .ok (.goto 4, 3) := by decide +kernel
theorem dX11_set_27 : decode cX11_set 27 = .ok (.lconst 0, 1) := by decide +kernel
theorem dX11_set_28 : decode cX11_set 28 = .ok (.iload_n 1, 1) := by decide +kernel
theorem dX11_set_29 : decode cX11_set 29 = .ok (.ifCond .ne 9, 3) := by decide +kernel
theorem dX11_set_32 : decode cX11_set 32 = .ok (.ldc2_w 274, 3) := by decide +kernel
theorem dX11_set_35 : decode cX11_set 35 = .ok (.goto 6, 3) := by decide +kernel
theorem dX11_set_38 : decode cX11_set 38 = .ok (.ldc2_w 276, 3) := by decide +kernel
theorem dX11_set_41 : decode cX11_set 41 = .ok (.invokestatic 116, 3) := by decide +kernel
theorem dX11_set_44 : decode cX11_set 44 = .ok (.ifCond .ne 5, 3) := by decide +kernel
theorem dX11_set_47 : decode cX11_set 47 = .ok (.iconst (-1), 1) := by decide +kernel
theorem dX11_set_48 : decode cX11_set 48 = .ok (.ireturn, 1) := by decide +kernel
theorem dX11_set_49 : decode cX11_set 49 = .ok (.aload_n 0, 1) := by decide +kernel
theorem dX11_set_50 : decode cX11_set 50 = .ok (.getfield 26, 3) := by decide +kernel
theorem dX11_set_53 : decode cX11_set 53 = .ok (.iload_n 1, 1) := by decide +kernel
theorem dX11_set_54 : decode cX11_set 54 = .ok (.iaload, 1) := by decide +kernel
theorem dX11_set_55 : decode cX11_set 55 = .ok (.istore_n 3, 1) := by decide +kernel
theorem dX11_set_56 : decode cX11_set 56 = .ok (.aload_n 0, 1) := by decide +kernel
theorem dX11_set_57 : decode cX11_set 57 = .ok (.getfield 26, 3) := by decide +kernel
theorem dX11_set_60 : decode cX11_set 60 = .ok (.iload_n 1, 1) := by decide +kernel
theorem dX11_set_61 : decode cX11_set 61 = .ok (.iload_n 2, 1) := by decide +kernel
theorem dX11_set_62 : decode cX11_set 62 = .ok (.iastore, 1) := by decide +kernel
theorem dX11_set_63 : decode cX11_set 63 = .ok (.iload_n 3, 1) := by decide +kernel
theorem dX11_set_64 : decode cX11_set 64 = .ok (.ireturn, 1) := by decide +kernel
theorem dX11_sheet_0 : decode cX11_sheet 0 = .ok (.aload_n 0, 1) := by decide +kernel
theorem dX11_sheet_1 : decode cX11_sheet 1 = .ok (.iconst 0, 1) := by decide +kernel
theorem dX11_sheet_2 : decode cX11_sheet 2 = .ok (.putfield 102, 3) := by decide +kernel
theorem dX11_sheet_5 : decode cX11_sheet 5 = .ok (.iload_n 1, 1) := by decide +kernel
theorem dX11_sheet_6 : decode cX11_sheet 6 = .ok (.i2l, 1) := by decide +kernel
theorem dX11_sheet_7 : decode cX11_sheet 7 = .ok (.lconst 0, 1) := by decide +kernel
theorem dX11_sheet_8 : decode cX11_sheet 8 = .ok (.ldc2_w 278, 3) := by decide +kernel
theorem dX11_sheet_11 : decode cX11_sheet 11 = .ok (.invokestatic 116, 3) := by decide +kernel
theorem dX11_sheet_14 : decode cX11_sheet 14 = .ok (.ifCond .eq 9, 3) := by decide +kernel
theorem dX11_sheet_17 : decode cX11_sheet 17 = .ok (.iload_n 2, 1) := by decide +kernel
theorem dX11_sheet_18 : decode cX11_sheet 18 = .ok (.bipush 8, 2) := by decide +kernel
theorem dX11_sheet_20 : decode cX11_sheet 20 = .ok (.if_icmp .le 5, 3) := by decide +kernel
theorem dX11_sheet_23 : decode cX11_sheet 23 = .ok (.iconst (-1), 1) := by decide +kernel
theorem dX11_sheet_24 : decode cX11_sheet 24 = .ok (.ireturn, 1) := by decide +kernel
theorem dX11_sheet_25 : decode cX11_sheet 25 = .ok (.iload_n 1, 1) := by decide +kernel
theorem dX11_sheet_26 : decode cX11_sheet 26 = .ok (.iconst 3, 1) := by decide +kernel
theorem dX11_sheet_27 : decode cX11_sheet 27 = .ok (.if_icmp .eq 10, 3) := by decide +kernel
theorem dX11_sheet_30 : decode cX11_sheet 30 = .ok (.iload_n 2, 1) := by decide +kernel
theorem dX11_sheet_31 : decode cX11_sheet 31 = .ok (.ifCond .ge 6, 3) := by decide +kernel
theorem dX11_sheet_34 : decode cX11_sheet 34 = .ok (.bipush (-2), 2) := by decide +kernel
theorem dX11_sheet_36 : decode cX11_sheet 36 = .ok (.ireturn, 1) := by decide +kernel
theorem dX11_sheet_37 : decode cX11_sheet 37 = .ok (.iconst 0, 1) := by decide +kernel
theorem dX11_sheet_38 : decode cX11_sheet 38 = .ok (.istore 5, 2) := by decide +kernel
theorem dX11_sheet_40 : decode cX11_sheet 40 = .ok (.iload_n 3, 1) := by decide +kernel
theorem dX11_sheet_41 : decode cX11_sheet 41 = .ok (.istore 6, 2) := by decide +kernel
theorem dX11_sheet_43 : decode cX11_sheet 43 = .ok (.iconst 0, 1) := by decide +kernel
theorem dX11_sheet_44 : decode cX11_sheet 44 = .ok (.istore 7, 2) := by decide +kernel
theorem dX11_sheet_46 : decode cX11_sheet 46 = .ok (.iload 7, 2) := by decide +kernel
theorem dX11_sheet_48 : decode cX11_sheet 48 = .ok (.aload_n 0, 1) := by decide +kernel
theorem dX11_sheet_49 : decode cX11_sheet 49 = .ok (.getfield 113, 3) := by decide +kernel
theorem dX11_sheet_52 : decode cX11_sheet 52 = .ok (.if_icmp .ge 86, 3) := by decide +kernel
theorem dX11_sheet_55 : decode cX11_sheet 55 = .ok (.iload_n 1, 1) := by decide +kernel
theorem dX11_sheet_56 : decode cX11_sheet 56 = .ok (.ifCond .ne 9, 3) := by decide +kernel
theorem dX11_sheet_59 : decode cX11_sheet 59 = .ok (.iload 6, 2) := by decide +kernel
theorem dX11_sheet_61 : decode cX11_sheet 61 = .ok (.i2b, 1) := by decide +kernel
theorem dX11_sheet_62 : decode cX11_sheet 62 = .ok (.goto 16, 3) := by decide +kernel
theorem dX11_sheet_65 : decode cX11_sheet 65 = .ok (.iload_n 1, 1) := by decide +kernel
theorem dX11_sheet_66 : decode cX11_sheet 66 = .ok (.iconst 1, 1) := by decide +kernel
theorem dX11_sheet_67 : decode cX11_sheet 67 = .ok (.if_icmp .ne 9, 3) := by decide +kernel
theorem dX11_sheet_70 : decode cX11_sheet 70 = .ok (.iload 6, 2) := by decide +kernel
theorem dX11_sheet_72 : decode cX11_sheet 72 = .ok (.i2s, 1) := by decide +kernel
theorem dX11_sheet_73 : decode cX11_sheet 73 = .ok (.goto 5, 3) := by decide +kernel
theorem dX11_sheet_76 : decode cX11_sheet 76 = .ok (.iload 6, 2) := by decide +kernel
theorem dX11_sheet_78 : decode cX11_sheet 78 = .ok (.istore 8, 2) := by decide +kernel
theorem dX11_sheet_80 : decode cX11_sheet 80 = .ok (.aload_n 0, 1) := by decide +kernel
theorem dX11_sheet_81 : decode cX11_sheet 81 = .ok (.getfield 29, 3) := by decide +kernel
theorem dX11_sheet_84 : decode cX11_sheet 84 = .ok (.iload 7, 2) := by decide +kernel
theorem dX11_sheet_86 : decode cX11_sheet 86 = .ok (.iload_n 1, 1) := by decide +kernel
theorem dX11_sheet_87 : decode cX11_sheet 87 = .ok (.iconst 3, 1) := by decide +kernel
theorem dX11_sheet_88 : decode cX11_sheet 88 = .ok (.if_icmp .eq 9, 3) := by decide +kernel
theorem dX11_sheet_91 : decode cX11_sheet 91 = .ok (.iload 7, 2) := by decide +kernel
theorem dX11_sheet_93 : decode cX11_sheet 93 = .ok (.iload_n 2, 1) := by decide +kernel
theorem dX11_sheet_94 : decode cX11_sheet 94 = .ok (.if_icmp .lt 7, 3) := by decide +kernel
theorem dX11_sheet_97 : decode cX11_sheet 97 = .ok (.iconst 0, 1) := by decide +kernel
theorem dX11_sheet_98 : decode cX11_sheet 98 = .ok (.goto 14, 3) := by decide +kernel
theorem dX11_sheet_101 : decode cX11_sheet 101 = .ok (.iconst 0, 1) := by decide +kernel
theorem dX11_sheet_102 : decode cX11_sheet 102 = .ok (.bipush 99, 2) := by decide +kernel
theorem dX11_sheet_104 : decode cX11_sheet 104 = .ok (.iload 8, 2) := by decide +kernel
theorem dX11_sheet_106 : decode cX11_sheet 106 = .ok (.invokestatic 129, 3) := by decide +kernel
theorem dX11_sheet_109 : decode cX11_sheet 109 = .ok (.invokestatic 280, 3) := by decide +kernel
theorem dX11_sheet_112 : decode cX11_sheet 112 = .ok (.iastore, 1) := by decide +kernel
theorem dX11_sheet_113 : decode cX11_sheet 113 = .ok (.iload 5, 2) := by decide +kernel
theorem dX11_sheet_115 : decode cX11_sheet 115 = .ok (.aload_n 0, 1) := by decide +kernel
theorem dX11_sheet_116 : decode cX11_sheet 116 = .ok (.getfield 29, 3) := by decide +kernel
theorem dX11_sheet_119 : decode cX11_sheet 119 = .ok (.iload 7, 2) := by decide +kernel
theorem dX11_sheet_121 : decode cX11_sheet 121 = .ok (.iaload, 1) := by decide +kernel
theorem dX11_sheet_122 : decode cX11_sheet 122 = .ok (.iadd, 1) := by decide +kernel
theorem dX11_sheet_123 : decode cX11_sheet 123 = .ok (.istore 5, 2) := by decide +kernel
theorem dX11_sheet_125 : decode cX11_sheet 125 = .ok (.iload 6, 2) := by decide +kernel
theorem dX11_sheet_127 : decode cX11_sheet 127 = .ok (.iload 4, 2) := by decide +kernel
theorem dX11_sheet_129 : decode cX11_sheet 129 = .ok (.iadd, 1) := by decide +kernel
theorem dX11_sheet_130 : decode cX11_sheet 130 = .ok (.istore 6, 2) := by decide +kernel
theorem dX11_sheet_132 : decode cX11_sheet 132 = .ok (.iinc 7 1, 3) := by decide +kernel
theorem dX11_sheet_135 : decode cX11_sheet 135 = .ok (.goto (-89), 3) := by decide +kernel
theorem dX11_sheet_138 : decode cX11_sheet 138 = .ok (.iload_n 1, 1) := by decide +kernel
theorem dX11_sheet_139 : decode cX11_sheet 139 = .ok (.iconst 3, 1) := by decide +kernel
theorem dX11_sheet_140 : decode cX11_sheet 140 = .ok (.if_icmp .ne 8, 3) := by decide +kernel
theorem dX11_sheet_143 : decode cX11_sheet 143 = .ok (.bipush (-3), 2) := by decide +kernel
theorem dX11_sheet_145 : decode cX11_sheet 145 = .ok (.goto 5, 3) := by decide +kernel
theorem dX11_sheet_148 : decode cX11_sheet 148 = .ok (.iload 5, 2) := by decide +kernel
theorem dX11_sheet_150 : decode cX11_sheet 150 = .ok (.ireturn, 1) := by decide +kernel
theorem dX11_putsBy_0 : decode cX11_putsBy 0 = .ok (.iconst 0, 1) := by decide +kernel
theorem dX11_putsBy_1 : decode cX11_putsBy 1 = .ok (.istore_n 1, 1) := by decide +kernel
theorem dX11_putsBy_2 : decode cX11_putsBy 2 = .ok (.iload_n 1, 1) := by decide +kernel
theorem dX11_putsBy_3 : decode cX11_putsBy 3 = .ok (.bipush 16, 2) := by decide +kernel
theorem dX11_putsBy_5 : decode cX11_putsBy 5 = .ok (.if_icmp .ge 29, 3) := by decide +kernel
theorem dX11_putsBy_8 : decode cX11_putsBy 8 = .ok (.aload_n 0, 1) := by decide +kernel
theorem dX11_putsBy_9 : decode cX11_putsBy 9 = .ok (.getfield 53, 3) := by decide +kernel
theorem dX11_putsBy_12 : decode cX11_putsBy 12 = .ok (.bipush 16, 2) := by decide +kernel
theorem dX11_putsBy_14 : decode cX11_putsBy 14 = .ok (.aload_n 0, 1) := by decide +kernel
theorem dX11_putsBy_15 : decode cX11_putsBy 15 = .ok (.getfield 190, 3) := by decide +kernel
theorem dX11_putsBy_18 : decode cX11_putsBy 18 = .ok (.imul, 1) := by decide +kernel
theorem dX11_putsBy_19 : decode cX11_putsBy 19 = .ok (.iload_n 1, 1) := by decide +kernel
theorem dX11_putsBy_20 : decode cX11_putsBy 20 = .ok (.iadd, 1) := by decide +kernel
theorem dX11_putsBy_21 : decode cX11_putsBy 21 = .ok (.aload_n 0, 1) := by decide +kernel
theorem dX11_putsBy_22 : decode cX11_putsBy 22 = .ok (.getfield 29, 3) := by decide +kernel
theorem dX11_putsBy_25 : decode cX11_putsBy 25 = .ok (.iload_n 1, 1) := by decide +kernel
theorem dX11_putsBy_26 : decode cX11_putsBy 26 = .ok (.iaload, 1) := by decide +kernel
theorem dX11_putsBy_27 : decode cX11_putsBy 27 = .ok (.iastore, 1) := by decide +kernel
theorem dX11_putsBy_28 : decode cX11_putsBy 28 = .ok (.iinc 1 1, 3) := by decide +kernel
theorem dX11_putsBy_31 : decode cX11_putsBy 31 = .ok (.goto (-29), 3) := by decide +kernel
theorem dX11_putsBy_34 : decode cX11_putsBy 34 = .ok (.return_, 1) := by decide +kernel
theorem dX11_adds_0 : decode cX11_adds 0 = .ok (.aload_n 0, 1) := by decide +kernel
theorem dX11_adds_1 : decode cX11_adds 1 = .ok (.dup, 1) := by decide +kernel
theorem dX11_adds_2 : decode cX11_adds 2 = .ok (.getfield 190, 3) := by decide +kernel
theorem dX11_adds_5 : decode cX11_adds 5 = .ok (.iconst 1, 1) := by decide +kernel
theorem dX11_adds_6 : decode cX11_adds 6 = .ok (.iadd, 1) := by decide +kernel
theorem dX11_adds_7 : decode cX11_adds 7 = .ok (.putfield 190, 3) := by decide +kernel
theorem dX11_adds_10 : decode cX11_adds 10 = .ok (.aload_n 0, 1) := by decide +kernel
theorem dX11_adds_11 : decode cX11_adds 11 = .ok (.getfield 190, 3) := by decide +kernel
theorem dX11_adds_14 : decode cX11_adds 14 = .ok (.bipush 15, 2) := by decide +kernel
theorem dX11_adds_16 : decode cX11_adds 16 = .ok (.if_icmp .le 43, 3) := by decide +kernel
theorem dX11_adds_19 : decode cX11_adds 19 = .ok (.iconst 0, 1) := by decide +kernel
theorem dX11_adds_20 : decode cX11_adds 20 = .ok (.istore_n 2, 1) := by decide +kernel
theorem dX11_adds_21 : decode cX11_adds 21 = .ok (.iload_n 2, 1) := by decide +kernel
theorem dX11_adds_22 : decode cX11_adds 22 = .ok (.sipush 240, 3) := by decide +kernel
theorem dX11_adds_25 : decode cX11_adds 25 = .ok (.if_icmp .ge 24, 3) := by decide +kernel
theorem dX11_adds_28 : decode cX11_adds 28 = .ok (.aload_n 0, 1) := by decide +kernel
theorem dX11_adds_29 : decode cX11_adds 29 = .ok (.getfield 53, 3) := by decide +kernel
theorem dX11_adds_32 : decode cX11_adds 32 = .ok (.iload_n 2, 1) := by decide +kernel
theorem dX11_adds_33 : decode cX11_adds 33 = .ok (.aload_n 0, 1) := by decide +kernel
theorem dX11_adds_34 : decode cX11_adds 34 = .ok (.getfield 53, 3) := by decide +kernel
theorem dX11_adds_37 : decode cX11_adds 37 = .ok (.iload_n 2, 1) := by decide +kernel
theorem dX11_adds_38 : decode cX11_adds 38 = .ok (.bipush 16, 2) := by decide +kernel
theorem dX11_adds_40 : decode cX11_adds 40 = .ok (.iadd, 1) := by decide +kernel
theorem dX11_adds_41 : decode cX11_adds 41 = .ok (.iaload, 1) := by decide +kernel
theorem dX11_adds_42 : decode cX11_adds 42 = .ok (.iastore, 1) := by decide +kernel
theorem dX11_adds_43 : decode cX11_adds 43 = .ok (.iinc 2 1, 3) := by decide +kernel
theorem dX11_adds_46 : decode cX11_adds 46 = .ok (.goto (-25), 3) := by decide +kernel
theorem dX11_adds_49 : decode cX11_adds 49 = .ok (.aload_n 0, 1) := by decide +kernel
theorem dX11_adds_50 : decode cX11_adds 50 = .ok (.dup, 1) := by decide +kernel
theorem dX11_adds_51 : decode cX11_adds 51 = .ok (.getfield 190, 3) := by decide +kernel
theorem dX11_adds_54 : decode cX11_adds 54 = .ok (.iconst 1, 1) := by decide +kernel
theorem dX11_adds_55 : decode cX11_adds 55 = .ok (.isub, 1) := by decide +kernel
theorem dX11_adds_56 : decode cX11_adds 56 = .ok (.putfield 190, 3) := by decide +kernel
theorem dX11_adds_59 : decode cX11_adds 59 = .ok (.iload_n 1, 1) := by decide +kernel
theorem dX11_adds_60 : decode cX11_adds 60 = .ok (.ireturn, 1) := by decide +kernel
theorem dX11_counts_0 : decode cX11_counts 0 = .ok (.iload_n 1, 1) := by decide +kernel
theorem dX11_counts_1 : decode cX11_counts 1 = .ok (.ifCond .ge 7, 3) := by decide +kernel
theorem dX11_counts_4 : decode cX11_counts 4 = .ok (.iload_n 1, 1) := by decide +kernel
theorem dX11_counts_5 : decode cX11_counts 5 = .ok (.goto 8, 3) := by decide +kernel
theorem dX11_counts_8 : decode cX11_counts 8 = .ok (.aload_n 0, 1) := by decide +kernel
theorem dX11_counts_9 : decode cX11_counts 9 = .ok (.iload_n 1, 1) := by decide +kernel
theorem dX11_counts_10 : decode cX11_counts 10 = .ok (.invokevirtual 283, 3) := by decide +kernel
theorem dX11_counts_13 : decode cX11_counts 13 = .ok (.ireturn, 1) := by decide +kernel
theorem dX11_undo_0 : decode cX11_undo 0 = .ok (.aload_n 0, 1) := by decide +kernel
theorem dX11_undo_1 : decode cX11_undo 1 = .ok (.iconst 0, 1) := by decide +kernel
theorem dX11_undo_2 : decode cX11_undo 2 = .ok (.putfield 102, 3) := by decide +kernel
theorem dX11_undo_5 : decode cX11_undo 5 = .ok (.aload_n 0, 1) := by decide +kernel
theorem dX11_undo_6 : decode cX11_undo 6 = .ok (.getfield 190, 3) := by decide +kernel
theorem dX11_undo_9 : decode cX11_undo 9 = .ok (.ifCond .ne 5, 3) := by decide +kernel
theorem dX11_undo_12 : decode cX11_undo 12 = .ok (.iconst (-1), 1) := by decide +kernel
theorem dX11_undo_13 : decode cX11_undo 13 = .ok (.ireturn, 1) := by decide +kernel
theorem dX11_undo_14 : decode cX11_undo 14 = .ok (.aload_n 0, 1) := by decide +kernel
theorem dX11_undo_15 : decode cX11_undo 15 = .ok (.dup, 1) := by decide +kernel
theorem dX11_undo_16 : decode cX11_undo 16 = .ok (.getfield 190, 3) := by decide +kernel
theorem dX11_undo_19 : decode cX11_undo 19 = .ok (.iconst 1, 1) := by decide +kernel
theorem dX11_undo_20 : decode cX11_undo 20 = .ok (.isub, 1) := by decide +kernel
theorem dX11_undo_21 : decode cX11_undo 21 = .ok (.putfield 190, 3) := by decide +kernel
theorem dX11_undo_24 : decode cX11_undo 24 = .ok (.iconst 0, 1) := by decide +kernel
theorem dX11_undo_25 : decode cX11_undo 25 = .ok (.istore_n 1, 1) := by decide +kernel
theorem dX11_undo_26 : decode cX11_undo 26 = .ok (.iload_n 1, 1) := by decide +kernel
theorem dX11_undo_27 : decode cX11_undo 27 = .ok (.bipush 16, 2) := by decide +kernel
theorem dX11_undo_29 : decode cX11_undo 29 = .ok (.if_icmp .ge 29, 3) := by decide +kernel
theorem dX11_undo_32 : decode cX11_undo 32 = .ok (.aload_n 0, 1) := by decide +kernel
theorem dX11_undo_33 : decode cX11_undo 33 = .ok (.getfield 29, 3) := by decide +kernel
theorem dX11_undo_36 : decode cX11_undo 36 = .ok (.iload_n 1, 1) := by decide +kernel
theorem dX11_undo_37 : decode cX11_undo 37 = .ok (.aload_n 0, 1) := by decide +kernel
theorem dX11_undo_38 : decode cX11_undo 38 = .ok (.getfield 53, 3) := by decide +kernel
theorem dX11_undo_41 : decode cX11_undo 41 = .ok (.bipush 16, 2) := by decide +kernel
theorem dX11_undo_43 : decode cX11_undo 43 = .ok (.aload_n 0, 1) := by decide +kernel
theorem dX11_undo_44 : decode cX11_undo 44 = .ok (.getfield 190, 3) := by decide +kernel
theorem dX11_undo_47 : decode cX11_undo 47 = .ok (.imul, 1) := by decide +kernel
theorem dX11_undo_48 : decode cX11_undo 48 = .ok (.iload_n 1, 1) := by decide +kernel
theorem dX11_undo_49 : decode cX11_undo 49 = .ok (.iadd, 1) := by decide +kernel
theorem dX11_undo_50 : decode cX11_undo 50 = .ok (.iaload, 1) := by decide +kernel
theorem dX11_undo_51 : decode cX11_undo 51 = .ok (.iastore, 1) := by decide +kernel
theorem dX11_undo_52 : decode cX11_undo 52 = .ok (.iinc 1 1, 3) := by decide +kernel
theorem dX11_undo_55 : decode cX11_undo 55 = .ok (.goto (-29), 3) := by decide +kernel
theorem dX11_undo_58 : decode cX11_undo 58 = .ok (.aload_n 0, 1) := by decide +kernel
theorem dX11_undo_59 : decode cX11_undo 59 = .ok (.getfield 190, 3) := by decide +kernel
theorem dX11_undo_62 : decode cX11_undo 62 = .ok (.ireturn, 1) := by decide +kernel
theorem dX11_doubtsGo_0 : decode cX11_doubtsGo 0 = .ok (.aload_n 1, 1) := by decide +kernel
theorem dX11_doubtsGo_1 : decode cX11_doubtsGo 1 = .ok (.bipush 15, 2) := by decide +kernel
theorem dX11_doubtsGo_3 : decode cX11_doubtsGo 3 = .ok (.iaload, 1) := by decide +kernel
theorem dX11_doubtsGo_4 : decode cX11_doubtsGo 4 = .ok (.istore_n 2, 1) := by decide +kernel
theorem dX11_doubtsGo_5 : decode cX11_doubtsGo 5 = .ok (.iconst 0, 1) := by decide +kernel
theorem dX11_doubtsGo_6 : decode cX11_doubtsGo 6 = .ok (.istore_n 3, 1) := by decide +kernel
theorem dX11_doubtsGo_7 : decode cX11_doubtsGo 7 = .ok (.iload_n 3, 1) := by decide +kernel
theorem dX11_doubtsGo_8 : decode cX11_doubtsGo 8 = .ok (.aload_n 0, 1) := by decide +kernel
theorem dX11_doubtsGo_9 : decode cX11_doubtsGo 9 = .ok (.getfield 202, 3) := by decide +kernel
theorem dX11_doubtsGo_12 : decode cX11_doubtsGo 12 = .ok (.if_icmp .ge 80, 3) := by decide +kernel
theorem dX11_doubtsGo_15 : decode cX11_doubtsGo 15 = .ok (.iload_n 2, 1) := by decide +kernel
theorem dX11_doubtsGo_16 : decode cX11_doubtsGo 16 = .ok (.iconst 1, 1) := by decide +kernel
theorem dX11_doubtsGo_17 : decode cX11_doubtsGo 17 = .ok (.iload_n 3, 1) := by decide +kernel
theorem dX11_doubtsGo_18 : decode cX11_doubtsGo 18 = .ok (.ishl, 1) := by decide +kernel
theorem dX11_doubtsGo_19 : decode cX11_doubtsGo 19 = .ok (.iconst (-1), 1) := by decide +kernel
theorem dX11_doubtsGo_20 : decode cX11_doubtsGo 20 = .ok (.ixor, 1) := by decide +kernel
theorem dX11_doubtsGo_21 : decode cX11_doubtsGo 21 = .ok (.iand, 1) := by decide +kernel
theorem dX11_doubtsGo_22 : decode cX11_doubtsGo 22 = .ok (.invokestatic 248, 3) := by decide +kernel
theorem dX11_doubtsGo_25 : decode cX11_doubtsGo 25 = .ok (.istore 4, 2) := by decide +kernel
theorem dX11_doubtsGo_27 : decode cX11_doubtsGo 27 = .ok (.aload_n 1, 1) := by decide +kernel
theorem dX11_doubtsGo_28 : decode cX11_doubtsGo 28 = .ok (.bipush 12, 2) := by decide +kernel
theorem dX11_doubtsGo_30 : decode cX11_doubtsGo 30 = .ok (.iaload, 1) := by decide +kernel
theorem dX11_doubtsGo_31 : decode cX11_doubtsGo 31 = .ok (.aload_n 0, 1) := by decide +kernel
theorem dX11_doubtsGo_32 : decode cX11_doubtsGo 32 = .ok (.getfield 20, 3) := by decide +kernel
theorem dX11_doubtsGo_35 : decode cX11_doubtsGo 35 = .ok (.iload_n 3, 1) := by decide +kernel
theorem dX11_doubtsGo_36 : decode cX11_doubtsGo 36 = .ok (.iaload, 1) := by decide +kernel
theorem dX11_doubtsGo_37 : decode cX11_doubtsGo 37 = .ok (.if_icmp .ge 23, 3) := by decide +kernel
theorem dX11_doubtsGo_40 : decode cX11_doubtsGo 40 = .ok (.aload_n 0, 1) := by decide +kernel
theorem dX11_doubtsGo_41 : decode cX11_doubtsGo 41 = .ok (.getfield 23, 3) := by decide +kernel
theorem dX11_doubtsGo_44 : decode cX11_doubtsGo 44 = .ok (.iload_n 3, 1) := by decide +kernel
theorem dX11_doubtsGo_45 : decode cX11_doubtsGo 45 = .ok (.iaload, 1) := by decide +kernel
theorem dX11_doubtsGo_46 : decode cX11_doubtsGo 46 = .ok (.ifCond .le 18, 3) := by decide +kernel
theorem dX11_doubtsGo_49 : decode cX11_doubtsGo 49 = .ok (.iload 4, 2) := by decide +kernel
theorem dX11_doubtsGo_51 : decode cX11_doubtsGo 51 = .ok (.aload_n 0, 1) := by decide +kernel
theorem dX11_doubtsGo_52 : decode cX11_doubtsGo 52 = .ok (.getfield 23, 3) := by decide +kernel
theorem dX11_doubtsGo_55 : decode cX11_doubtsGo 55 = .ok (.iload_n 3, 1) := by decide +kernel
theorem dX11_doubtsGo_56 : decode cX11_doubtsGo 56 = .ok (.iaload, 1) := by decide +kernel
theorem dX11_doubtsGo_57 : decode cX11_doubtsGo 57 = .ok (.if_icmp .lt 7, 3) := by decide +kernel
theorem dX11_doubtsGo_60 : decode cX11_doubtsGo 60 = .ok (.iconst 1, 1) := by decide +kernel
theorem dX11_doubtsGo_61 : decode cX11_doubtsGo 61 = .ok (.goto 4, 3) := by decide +kernel
theorem dX11_doubtsGo_64 : decode cX11_doubtsGo 64 = .ok (.iconst 0, 1) := by decide +kernel
theorem dX11_doubtsGo_65 : decode cX11_doubtsGo 65 = .ok (.istore 5, 2) := by decide +kernel
theorem dX11_doubtsGo_67 : decode cX11_doubtsGo 67 = .ok (.aload_n 1, 1) := by decide +kernel
theorem dX11_doubtsGo_68 : decode cX11_doubtsGo 68 = .ok (.bipush 15, 2) := by decide +kernel
theorem dX11_doubtsGo_70 : decode cX11_doubtsGo 70 = .ok (.dup2, 1) := by decide +kernel
theorem dX11_doubtsGo_71 : decode cX11_doubtsGo 71 = .ok (.iaload, 1) := by decide +kernel
theorem dX11_doubtsGo_72 : decode cX11_doubtsGo 72 = .ok (.iload 5, 2) := by decide +kernel
theorem dX11_doubtsGo_74 : decode cX11_doubtsGo 74 = .ok (.ifCond .eq 9, 3) := by decide +kernel
theorem dX11_doubtsGo_77 : decode cX11_doubtsGo 77 = .ok (.iconst 1, 1) := by decide +kernel
theorem dX11_doubtsGo_78 : decode cX11_doubtsGo 78 = .ok (.iload_n 3, 1) := by decide +kernel
theorem dX11_doubtsGo_79 : decode cX11_doubtsGo 79 = .ok (.ishl, 1) := by decide +kernel
theorem dX11_doubtsGo_80 : decode cX11_doubtsGo 80 = .ok (.goto 4, 3) := by decide +kernel
theorem dX11_doubtsGo_83 : decode cX11_doubtsGo 83 = .ok (.iconst 0, 1) := by decide +kernel
theorem dX11_doubtsGo_84 : decode cX11_doubtsGo 84 = .ok (.ior, 1) := by decide +kernel
theorem dX11_doubtsGo_85 : decode cX11_doubtsGo 85 = .ok (.iastore, 1) := by decide +kernel
theorem dX11_doubtsGo_86 : decode cX11_doubtsGo 86 = .ok (.iinc 3 1, 3) := by decide +kernel
theorem dX11_doubtsGo_89 : decode cX11_doubtsGo 89 = .ok (.goto (-82), 3) := by decide +kernel
theorem dX11_doubtsGo_92 : decode cX11_doubtsGo 92 = .ok (.return_, 1) := by decide +kernel
theorem dX11_minuteGoes_0 : decode cX11_minuteGoes 0 = .ok (.aload_n 0, 1) := by decide +kernel
theorem dX11_minuteGoes_1 : decode cX11_minuteGoes 1 = .ok (.aload_n 1, 1) := by decide +kernel
theorem dX11_minuteGoes_2 : decode cX11_minuteGoes 2 = .ok (.aload_n 1, 1) := by decide +kernel
theorem dX11_minuteGoes_3 : decode cX11_minuteGoes 3 = .ok (.bipush 8, 2) := by decide +kernel
theorem dX11_minuteGoes_5 : decode cX11_minuteGoes 5 = .ok (.iaload, 1) := by decide +kernel
theorem dX11_minuteGoes_6 : decode cX11_minuteGoes 6 = .ok (.invokevirtual 268, 3) := by decide +kernel
theorem dX11_minuteGoes_9 : decode cX11_minuteGoes 9 = .ok (.ifCond .le 7, 3) := by decide +kernel
theorem dX11_minuteGoes_12 : decode cX11_minuteGoes 12 = .ok (.iconst 1, 1) := by decide +kernel
theorem dX11_minuteGoes_13 : decode cX11_minuteGoes 13 = .ok (.goto 4, 3) := by decide +kernel
theorem dX11_minuteGoes_16 : decode cX11_minuteGoes 16 = .ok (.iconst 0, 1) := by decide +kernel
theorem dX11_minuteGoes_17 : decode cX11_minuteGoes 17 = .ok (.istore_n 2, 1) := by decide +kernel
theorem dX11_minuteGoes_18 : decode cX11_minuteGoes 18 = .ok (.iload_n 2, 1) := by decide +kernel
theorem dX11_minuteGoes_19 : decode cX11_minuteGoes 19 = .ok (.ifCond .eq 50, 3) := by decide +kernel
theorem dX11_minuteGoes_22 : decode cX11_minuteGoes 22 = .ok (.aload_n 1, 1) := by decide +kernel
theorem dX11_minuteGoes_23 : decode cX11_minuteGoes 23 = .ok (.bipush 11, 2) := by decide +kernel
theorem dX11_minuteGoes_25 : decode cX11_minuteGoes 25 = .ok (.dup2, 1) := by decide +kernel
theorem dX11_minuteGoes_26 : decode cX11_minuteGoes 26 = .ok (.iaload, 1) := by decide +kernel
theorem dX11_minuteGoes_27 : decode cX11_minuteGoes 27 = .ok (.iconst 1, 1) := by decide +kernel
theorem dX11_minuteGoes_28 : decode cX11_minuteGoes 28 = .ok (.iadd, 1) := by decide +kernel
theorem dX11_minuteGoes_29 : decode cX11_minuteGoes 29 = .ok (.iastore, 1) := by decide +kernel
theorem dX11_minuteGoes_30 : decode cX11_minuteGoes 30 = .ok (.aload_n 1, 1) := by decide +kernel
theorem dX11_minuteGoes_31 : decode cX11_minuteGoes 31 = .ok (.bipush 12, 2) := by decide +kernel
theorem dX11_minuteGoes_33 : decode cX11_minuteGoes 33 = .ok (.iconst 0, 1) := by decide +kernel
theorem dX11_minuteGoes_34 : decode cX11_minuteGoes 34 = .ok (.iastore, 1) := by decide +kernel
theorem dX11_minuteGoes_35 : decode cX11_minuteGoes 35 = .ok (.aload_n 1, 1) := by decide +kernel
theorem dX11_minuteGoes_36 : decode cX11_minuteGoes 36 = .ok (.bipush 9, 2) := by decide +kernel
theorem dX11_minuteGoes_38 : decode cX11_minuteGoes 38 = .ok (.iconst 0, 1) := by decide +kernel
theorem dX11_minuteGoes_39 : decode cX11_minuteGoes 39 = .ok (.aload_n 1, 1) := by decide +kernel
theorem dX11_minuteGoes_40 : decode cX11_minuteGoes 40 = .ok (.bipush 9, 2) := by decide +kernel
theorem dX11_minuteGoes_42 : decode cX11_minuteGoes 42 = .ok (.iaload, 1) := by decide +kernel
theorem dX11_minuteGoes_43 : decode cX11_minuteGoes 43 = .ok (.aload_n 1, 1) := by decide +kernel
theorem dX11_minuteGoes_44 : decode cX11_minuteGoes 44 = .ok (.bipush 11, 2) := by decide +kernel
theorem dX11_minuteGoes_46 : decode cX11_minuteGoes 46 = .ok (.iaload, 1) := by decide +kernel
theorem dX11_minuteGoes_47 : decode cX11_minuteGoes 47 = .ok (.bipush 10, 2) := by decide +kernel
theorem dX11_minuteGoes_49 : decode cX11_minuteGoes 49 = .ok (.irem, 1) := by decide +kernel
theorem dX11_minuteGoes_50 : decode cX11_minuteGoes 50 = .ok (.ifCond .ne 7, 3) := by decide +kernel
theorem dX11_minuteGoes_53 : decode cX11_minuteGoes 53 = .ok (.iconst 1, 1) := by decide +kernel
theorem dX11_minuteGoes_54 : decode cX11_minuteGoes 54 = .ok (.goto 4, 3) := by decide +kernel
theorem dX11_minuteGoes_57 : decode cX11_minuteGoes 57 = .ok (.iconst 0, 1) := by decide +kernel
theorem dX11_minuteGoes_58 : decode cX11_minuteGoes 58 = .ok (.invokestatic 138, 3) := by decide +kernel
theorem dX11_minuteGoes_61 : decode cX11_minuteGoes 61 = .ok (.isub, 1) := by decide +kernel
theorem dX11_minuteGoes_62 : decode cX11_minuteGoes 62 = .ok (.invokestatic 280, 3) := by decide +kernel
theorem dX11_minuteGoes_65 : decode cX11_minuteGoes 65 = .ok (.iastore, 1) := by decide +kernel
theorem dX11_minuteGoes_66 : decode cX11_minuteGoes 66 = .ok (.goto 41, 3) := by decide +kernel
theorem dX11_minuteGoes_69 : decode cX11_minuteGoes 69 = .ok (.aload_n 1, 1) := by decide +kernel
theorem dX11_minuteGoes_70 : decode cX11_minuteGoes 70 = .ok (.bipush 12, 2) := by decide +kernel
theorem dX11_minuteGoes_72 : decode cX11_minuteGoes 72 = .ok (.dup2, 1) := by decide +kernel
theorem dX11_minuteGoes_73 : decode cX11_minuteGoes 73 = .ok (.iaload, 1) := by decide +kernel
theorem dX11_minuteGoes_74 : decode cX11_minuteGoes 74 = .ok (.iconst 1, 1) := by decide +kernel
theorem dX11_minuteGoes_75 : decode cX11_minuteGoes 75 = .ok (.iadd, 1) := by decide +kernel
theorem dX11_minuteGoes_76 : decode cX11_minuteGoes 76 = .ok (.iastore, 1) := by decide +kernel
theorem dX11_minuteGoes_77 : decode cX11_minuteGoes 77 = .ok (.aload_n 1, 1) := by decide +kernel
theorem dX11_minuteGoes_78 : decode cX11_minuteGoes 78 = .ok (.bipush 13, 2) := by decide +kernel
theorem dX11_minuteGoes_80 : decode cX11_minuteGoes 80 = .ok (.dup2, 1) := by decide +kernel
theorem dX11_minuteGoes_81 : decode cX11_minuteGoes 81 = .ok (.iaload, 1) := by decide +kernel
theorem dX11_minuteGoes_82 : decode cX11_minuteGoes 82 = .ok (.aload_n 1, 1) := by decide +kernel
theorem dX11_minuteGoes_83 : decode cX11_minuteGoes 83 = .ok (.bipush 12, 2) := by decide +kernel
theorem dX11_minuteGoes_85 : decode cX11_minuteGoes 85 = .ok (.iaload, 1) := by decide +kernel
theorem dX11_minuteGoes_86 : decode cX11_minuteGoes 86 = .ok (.aload_n 0, 1) := by decide +kernel
theorem dX11_minuteGoes_87 : decode cX11_minuteGoes 87 = .ok (.getfield 26, 3) := by decide +kernel
theorem dX11_minuteGoes_90 : decode cX11_minuteGoes 90 = .ok (.iconst 2, 1) := by decide +kernel
theorem dX11_minuteGoes_91 : decode cX11_minuteGoes 91 = .ok (.iaload, 1) := by decide +kernel
theorem dX11_minuteGoes_92 : decode cX11_minuteGoes 92 = .ok (.iconst 1, 1) := by decide +kernel
theorem dX11_minuteGoes_93 : decode cX11_minuteGoes 93 = .ok (.iadd, 1) := by decide +kernel
theorem dX11_minuteGoes_94 : decode cX11_minuteGoes 94 = .ok (.if_icmp .ne 7, 3) := by decide +kernel
theorem dX11_minuteGoes_97 : decode cX11_minuteGoes 97 = .ok (.iconst 1, 1) := by decide +kernel
theorem dX11_minuteGoes_98 : decode cX11_minuteGoes 98 = .ok (.goto 4, 3) := by decide +kernel
theorem dX11_minuteGoes_101 : decode cX11_minuteGoes 101 = .ok (.iconst 0, 1) := by decide +kernel
theorem dX11_minuteGoes_102 : decode cX11_minuteGoes 102 = .ok (.invokestatic 138, 3) := by decide +kernel
theorem dX11_minuteGoes_105 : decode cX11_minuteGoes 105 = .ok (.iadd, 1) := by decide +kernel
theorem dX11_minuteGoes_106 : decode cX11_minuteGoes 106 = .ok (.iastore, 1) := by decide +kernel
theorem dX11_minuteGoes_107 : decode cX11_minuteGoes 107 = .ok (.iconst 0, 1) := by decide +kernel
theorem dX11_minuteGoes_108 : decode cX11_minuteGoes 108 = .ok (.istore_n 3, 1) := by decide +kernel
theorem dX11_minuteGoes_109 : decode cX11_minuteGoes 109 = .ok (.iload_n 3, 1) := by decide +kernel
theorem dX11_minuteGoes_110 : decode cX11_minuteGoes 110 = .ok (.aload_n 0, 1) := by decide +kernel
theorem dX11_minuteGoes_111 : decode cX11_minuteGoes 111 = .ok (.getfield 113, 3) := by decide +kernel
theorem dX11_minuteGoes_114 : decode cX11_minuteGoes 114 = .ok (.if_icmp .ge 45, 3) := by decide +kernel
theorem dX11_minuteGoes_117 : decode cX11_minuteGoes 117 = .ok (.aload_n 1, 1) := by decide +kernel
theorem dX11_minuteGoes_118 : decode cX11_minuteGoes 118 = .ok (.iload_n 3, 1) := by decide +kernel
theorem dX11_minuteGoes_119 : decode cX11_minuteGoes 119 = .ok (.aload_n 1, 1) := by decide +kernel
theorem dX11_minuteGoes_120 : decode cX11_minuteGoes 120 = .ok (.bipush 8, 2) := by decide +kernel
theorem dX11_minuteGoes_122 : decode cX11_minuteGoes 122 = .ok (.iaload, 1) := by decide +kernel
theorem dX11_minuteGoes_123 : decode cX11_minuteGoes 123 = .ok (.iload_n 3, 1) := by decide +kernel
theorem dX11_minuteGoes_124 : decode cX11_minuteGoes 124 = .ok (.invokestatic 240, 3) := by decide +kernel
theorem dX11_minuteGoes_127 : decode cX11_minuteGoes 127 = .ok (.ifCond .eq 16, 3) := by decide +kernel
theorem dX11_minuteGoes_130 : decode cX11_minuteGoes 130 = .ok (.bipush 99, 2) := by decide +kernel
theorem dX11_minuteGoes_132 : decode cX11_minuteGoes 132 = .ok (.aload_n 1, 1) := by decide +kernel
theorem dX11_minuteGoes_133 : decode cX11_minuteGoes 133 = .ok (.iload_n 3, 1) := by decide +kernel
theorem dX11_minuteGoes_134 : decode cX11_minuteGoes 134 = .ok (.iaload, 1) := by decide +kernel
theorem dX11_minuteGoes_135 : decode cX11_minuteGoes 135 = .ok (.iconst 2, 1) := by decide +kernel
theorem dX11_minuteGoes_136 : decode cX11_minuteGoes 136 = .ok (.iadd, 1) := by decide +kernel
theorem dX11_minuteGoes_137 : decode cX11_minuteGoes 137 = .ok (.invokestatic 129, 3) := by decide +kernel
theorem dX11_minuteGoes_140 : decode cX11_minuteGoes 140 = .ok (.goto 12, 3) := by decide +kernel
theorem dX11_minuteGoes_143 : decode cX11_minuteGoes 143 = .ok (.iconst 0, 1) := by decide +kernel
theorem dX11_minuteGoes_144 : decode cX11_minuteGoes 144 = .ok (.aload_n 1, 1) := by decide +kernel
theorem dX11_minuteGoes_145 : decode cX11_minuteGoes 145 = .ok (.iload_n 3, 1) := by decide +kernel
theorem dX11_minuteGoes_146 : decode cX11_minuteGoes 146 = .ok (.iaload, 1) := by decide +kernel
theorem dX11_minuteGoes_147 : decode cX11_minuteGoes 147 = .ok (.iconst 1, 1) := by decide +kernel
theorem dX11_minuteGoes_148 : decode cX11_minuteGoes 148 = .ok (.isub, 1) := by decide +kernel
theorem dX11_minuteGoes_149 : decode cX11_minuteGoes 149 = .ok (.invokestatic 280, 3) := by decide +kernel
theorem dX11_minuteGoes_152 : decode cX11_minuteGoes 152 = .ok (.iastore, 1) := by decide +kernel
theorem dX11_minuteGoes_153 : decode cX11_minuteGoes 153 = .ok (.iinc 3 1, 3) := by decide +kernel
theorem dX11_minuteGoes_156 : decode cX11_minuteGoes 156 = .ok (.goto (-47), 3) := by decide +kernel
theorem dX11_minuteGoes_159 : decode cX11_minuteGoes 159 = .ok (.aload_n 1, 1) := by decide +kernel
theorem dX11_minuteGoes_160 : decode cX11_minuteGoes 160 = .ok (.bipush 14, 2) := by decide +kernel
theorem dX11_minuteGoes_162 : decode cX11_minuteGoes 162 = .ok (.dup2, 1) := by decide +kernel
theorem dX11_minuteGoes_163 : decode cX11_minuteGoes 163 = .ok (.iaload, 1) := by decide +kernel
theorem dX11_minuteGoes_164 : decode cX11_minuteGoes 164 = .ok (.aload_n 0, 1) := by decide +kernel
theorem dX11_minuteGoes_165 : decode cX11_minuteGoes 165 = .ok (.aload_n 1, 1) := by decide +kernel
theorem dX11_minuteGoes_166 : decode cX11_minuteGoes 166 = .ok (.bipush 8, 2) := by decide +kernel
theorem dX11_minuteGoes_168 : decode cX11_minuteGoes 168 = .ok (.iaload, 1) := by decide +kernel
theorem dX11_minuteGoes_169 : decode cX11_minuteGoes 169 = .ok (.aload_n 0, 1) := by decide +kernel
theorem dX11_minuteGoes_170 : decode cX11_minuteGoes 170 = .ok (.getfield 17, 3) := by decide +kernel
theorem dX11_minuteGoes_173 : decode cX11_minuteGoes 173 = .ok (.invokevirtual 244, 3) := by decide +kernel
theorem dX11_minuteGoes_176 : decode cX11_minuteGoes 176 = .ok (.iadd, 1) := by decide +kernel
theorem dX11_minuteGoes_177 : decode cX11_minuteGoes 177 = .ok (.iastore, 1) := by decide +kernel
theorem dX11_minuteGoes_178 : decode cX11_minuteGoes 178 = .ok (.aload_n 1, 1) := by decide +kernel
theorem dX11_minuteGoes_179 : decode cX11_minuteGoes 179 = .ok (.bipush 10, 2) := by decide +kernel
theorem dX11_minuteGoes_181 : decode cX11_minuteGoes 181 = .ok (.dup2, 1) := by decide +kernel
theorem dX11_minuteGoes_182 : decode cX11_minuteGoes 182 = .ok (.iaload, 1) := by decide +kernel
theorem dX11_minuteGoes_183 : decode cX11_minuteGoes 183 = .ok (.iconst 1, 1) := by decide +kernel
theorem dX11_minuteGoes_184 : decode cX11_minuteGoes 184 = .ok (.iadd, 1) := by decide +kernel
theorem dX11_minuteGoes_185 : decode cX11_minuteGoes 185 = .ok (.iastore, 1) := by decide +kernel
theorem dX11_minuteGoes_186 : decode cX11_minuteGoes 186 = .ok (.aload_n 0, 1) := by decide +kernel
theorem dX11_minuteGoes_187 : decode cX11_minuteGoes 187 = .ok (.aload_n 1, 1) := by decide +kernel
theorem dX11_minuteGoes_188 : decode cX11_minuteGoes 188 = .ok (.invokevirtual 286, 3) := by decide +kernel
theorem dX11_minuteGoes_191 : decode cX11_minuteGoes 191 = .ok (.iload_n 2, 1) := by decide +kernel
theorem dX11_minuteGoes_192 : decode cX11_minuteGoes 192 = .ok (.ireturn, 1) := by decide +kernel
theorem dX11_takes_0 : decode cX11_takes 0 = .ok (.aload_n 0, 1) := by decide +kernel
theorem dX11_takes_1 : decode cX11_takes 1 = .ok (.iload_n 2, 1) := by decide +kernel
theorem dX11_takes_2 : decode cX11_takes 2 = .ok (.invokevirtual 260, 3) := by decide +kernel
theorem dX11_takes_5 : decode cX11_takes 5 = .ok (.ifCond .ne 5, 3) := by decide +kernel
theorem dX11_takes_8 : decode cX11_takes 8 = .ok (.iconst (-1), 1) := by decide +kernel
theorem dX11_takes_9 : decode cX11_takes 9 = .ok (.ireturn, 1) := by decide +kernel
theorem dX11_takes_10 : decode cX11_takes 10 = .ok (.aload_n 1, 1) := by decide +kernel
theorem dX11_takes_11 : decode cX11_takes 11 = .ok (.bipush 8, 2) := by decide +kernel
theorem dX11_takes_13 : decode cX11_takes 13 = .ok (.iaload, 1) := by decide +kernel
theorem dX11_takes_14 : decode cX11_takes 14 = .ok (.iload_n 2, 1) := by decide +kernel
theorem dX11_takes_15 : decode cX11_takes 15 = .ok (.invokestatic 240, 3) := by decide +kernel
theorem dX11_takes_18 : decode cX11_takes 18 = .ok (.ifCond .eq 6, 3) := by decide +kernel
theorem dX11_takes_21 : decode cX11_takes 21 = .ok (.bipush (-2), 2) := by decide +kernel
theorem dX11_takes_23 : decode cX11_takes 23 = .ok (.ireturn, 1) := by decide +kernel
theorem dX11_takes_24 : decode cX11_takes 24 = .ok (.aload_n 1, 1) := by decide +kernel
theorem dX11_takes_25 : decode cX11_takes 25 = .ok (.bipush 8, 2) := by decide +kernel
theorem dX11_takes_27 : decode cX11_takes 27 = .ok (.iaload, 1) := by decide +kernel
theorem dX11_takes_28 : decode cX11_takes 28 = .ok (.invokestatic 248, 3) := by decide +kernel
theorem dX11_takes_31 : decode cX11_takes 31 = .ok (.iconst 3, 1) := by decide +kernel
theorem dX11_takes_32 : decode cX11_takes 32 = .ok (.if_icmp .ne 6, 3) := by decide +kernel
theorem dX11_takes_35 : decode cX11_takes 35 = .ok (.bipush (-3), 2) := by decide +kernel
theorem dX11_takes_37 : decode cX11_takes 37 = .ok (.ireturn, 1) := by decide +kernel
theorem dX11_takes_38 : decode cX11_takes 38 = .ok (.aload_n 1, 1) := by decide +kernel
theorem dX11_takes_39 : decode cX11_takes 39 = .ok (.bipush 8, 2) := by decide +kernel
theorem dX11_takes_41 : decode cX11_takes 41 = .ok (.dup2, 1) := by decide +kernel
theorem dX11_takes_42 : decode cX11_takes 42 = .ok (.iaload, 1) := by decide +kernel
theorem dX11_takes_43 : decode cX11_takes 43 = .ok (.iconst 1, 1) := by decide +kernel
theorem dX11_takes_44 : decode cX11_takes 44 = .ok (.iload_n 2, 1) := by decide +kernel
theorem dX11_takes_45 : decode cX11_takes 45 = .ok (.ishl, 1) := by decide +kernel
theorem dX11_takes_46 : decode cX11_takes 46 = .ok (.ior, 1) := by decide +kernel
theorem dX11_takes_47 : decode cX11_takes 47 = .ok (.iastore, 1) := by decide +kernel
theorem dX11_takes_48 : decode cX11_takes 48 = .ok (.aload_n 1, 1) := by decide +kernel
theorem dX11_takes_49 : decode cX11_takes 49 = .ok (.bipush 8, 2) := by decide +kernel
theorem dX11_takes_51 : decode cX11_takes 51 = .ok (.iaload, 1) := by decide +kernel
theorem dX11_takes_52 : decode cX11_takes 52 = .ok (.invokestatic 248, 3) := by decide +kernel
theorem dX11_takes_55 : decode cX11_takes 55 = .ok (.ireturn, 1) := by decide +kernel
theorem dX11_leaves_0 : decode cX11_leaves 0 = .ok (.aload_n 0, 1) := by decide +kernel
theorem dX11_leaves_1 : decode cX11_leaves 1 = .ok (.iload_n 2, 1) := by decide +kernel
theorem dX11_leaves_2 : decode cX11_leaves 2 = .ok (.invokevirtual 260, 3) := by decide +kernel
theorem dX11_leaves_5 : decode cX11_leaves 5 = .ok (.ifCond .ne 5, 3) := by decide +kernel
theorem dX11_leaves_8 : decode cX11_leaves 8 = .ok (.iconst (-1), 1) := by decide +kernel
theorem dX11_leaves_9 : decode cX11_leaves 9 = .ok (.ireturn, 1) := by decide +kernel
theorem dX11_leaves_10 : decode cX11_leaves 10 = .ok (.aload_n 1, 1) := by decide +kernel
theorem dX11_leaves_11 : decode cX11_leaves 11 = .ok (.bipush 8, 2) := by decide +kernel
theorem dX11_leaves_13 : decode cX11_leaves 13 = .ok (.iaload, 1) := by decide +kernel
theorem dX11_leaves_14 : decode cX11_leaves 14 = .ok (.iload_n 2, 1) := by decide +kernel
theorem dX11_leaves_15 : decode cX11_leaves 15 = .ok (.invokestatic 240, 3) := by decide +kernel
theorem dX11_leaves_18 : decode cX11_leaves 18 = .ok (.ifCond .ne 6, 3) := by decide +kernel
theorem dX11_leaves_21 : decode cX11_leaves 21 = .ok (.bipush (-2), 2) := by decide +kernel
theorem dX11_leaves_23 : decode cX11_leaves 23 = .ok (.ireturn, 1) := by decide +kernel
theorem dX11_leaves_24 : decode cX11_leaves 24 = .ok (.aload_n 1, 1) := by decide +kernel
theorem dX11_leaves_25 : decode cX11_leaves 25 = .ok (.bipush 8, 2) := by decide +kernel
theorem dX11_leaves_27 : decode cX11_leaves 27 = .ok (.dup2, 1) := by decide +kernel
theorem dX11_leaves_28 : decode cX11_leaves 28 = .ok (.iaload, 1) := by decide +kernel
theorem dX11_leaves_29 : decode cX11_leaves 29 = .ok (.iconst 1, 1) := by decide +kernel
theorem dX11_leaves_30 : decode cX11_leaves 30 = .ok (.iload_n 2, 1) := by decide +kernel
theorem dX11_leaves_31 : decode cX11_leaves 31 = .ok (.ishl, 1) := by decide +kernel
theorem dX11_leaves_32 : decode cX11_leaves 32 = .ok (.iconst (-1), 1) := by decide +kernel
theorem dX11_leaves_33 : decode cX11_leaves 33 = .ok (.ixor, 1) := by decide +kernel
theorem dX11_leaves_34 : decode cX11_leaves 34 = .ok (.iand, 1) := by decide +kernel
theorem dX11_leaves_35 : decode cX11_leaves 35 = .ok (.iastore, 1) := by decide +kernel
theorem dX11_leaves_36 : decode cX11_leaves 36 = .ok (.aload_n 1, 1) := by decide +kernel
theorem dX11_leaves_37 : decode cX11_leaves 37 = .ok (.bipush 8, 2) := by decide +kernel
theorem dX11_leaves_39 : decode cX11_leaves 39 = .ok (.iaload, 1) := by decide +kernel
theorem dX11_leaves_40 : decode cX11_leaves 40 = .ok (.invokestatic 248, 3) := by decide +kernel
theorem dX11_leaves_43 : decode cX11_leaves 43 = .ok (.ireturn, 1) := by decide +kernel
theorem dX11_mends_0 : decode cX11_mends 0 = .ok (.iload_n 1, 1) := by decide +kernel
theorem dX11_mends_1 : decode cX11_mends 1 = .ok (.i2l, 1) := by decide +kernel
theorem dX11_mends_2 : decode cX11_mends 2 = .ok (.lconst 1, 1) := by decide +kernel
theorem dX11_mends_3 : decode cX11_mends 3 = .ok (.ldc2_w 290, 3) := by decide +kernel
theorem dX11_mends_6 : decode cX11_mends 6 = .ok (.invokestatic 116, 3) := by decide +kernel
theorem dX11_mends_9 : decode cX11_mends 9 = .ok (.ifCond .ne 5, 3) := by decide +kernel
theorem dX11_mends_12 : decode cX11_mends 12 = .ok (.iconst (-1), 1) := by decide +kernel
theorem dX11_mends_13 : decode cX11_mends 13 = .ok (.ireturn, 1) := by decide +kernel
theorem dX11_mends_14 : decode cX11_mends 14 = .ok (.aload_n 0, 1) := by decide +kernel
theorem dX11_mends_15 : decode cX11_mends 15 = .ok (.getfield 29, 3) := by decide +kernel
theorem dX11_mends_18 : decode cX11_mends 18 = .ok (.bipush 9, 2) := by decide +kernel
theorem dX11_mends_20 : decode cX11_mends 20 = .ok (.bipush 99, 2) := by decide +kernel
theorem dX11_mends_22 : decode cX11_mends 22 = .ok (.aload_n 0, 1) := by decide +kernel
theorem dX11_mends_23 : decode cX11_mends 23 = .ok (.getfield 29, 3) := by decide +kernel
theorem dX11_mends_26 : decode cX11_mends 26 = .ok (.bipush 9, 2) := by decide +kernel
theorem dX11_mends_28 : decode cX11_mends 28 = .ok (.iaload, 1) := by decide +kernel
theorem dX11_mends_29 : decode cX11_mends 29 = .ok (.iload_n 1, 1) := by decide +kernel
theorem dX11_mends_30 : decode cX11_mends 30 = .ok (.iadd, 1) := by decide +kernel
theorem dX11_mends_31 : decode cX11_mends 31 = .ok (.invokestatic 129, 3) := by decide +kernel
theorem dX11_mends_34 : decode cX11_mends 34 = .ok (.iastore, 1) := by decide +kernel
theorem dX11_mends_35 : decode cX11_mends 35 = .ok (.aload_n 0, 1) := by decide +kernel
theorem dX11_mends_36 : decode cX11_mends 36 = .ok (.getfield 29, 3) := by decide +kernel
theorem dX11_mends_39 : decode cX11_mends 39 = .ok (.bipush 9, 2) := by decide +kernel
theorem dX11_mends_41 : decode cX11_mends 41 = .ok (.iaload, 1) := by decide +kernel
theorem dX11_mends_42 : decode cX11_mends 42 = .ok (.ireturn, 1) := by decide +kernel
theorem dX11_take_0 : decode cX11_take 0 = .ok (.aload_n 0, 1) := by decide +kernel
theorem dX11_take_1 : decode cX11_take 1 = .ok (.iconst 0, 1) := by decide +kernel
theorem dX11_take_2 : decode cX11_take 2 = .ok (.putfield 102, 3) := by decide +kernel
theorem dX11_take_5 : decode cX11_take 5 = .ok (.aload_n 0, 1) := by decide +kernel
theorem dX11_take_6 : decode cX11_take 6 = .ok (.invokevirtual 292, 3) := by decide +kernel
theorem dX11_take_9 : decode cX11_take 9 = .ok (.aload_n 0, 1) := by decide +kernel
theorem dX11_take_10 : decode cX11_take 10 = .ok (.aload_n 0, 1) := by decide +kernel
theorem dX11_take_11 : decode cX11_take 11 = .ok (.aload_n 0, 1) := by decide +kernel
theorem dX11_take_12 : decode cX11_take 12 = .ok (.getfield 29, 3) := by decide +kernel
theorem dX11_take_15 : decode cX11_take 15 = .ok (.iload_n 1, 1) := by decide +kernel
theorem dX11_take_16 : decode cX11_take 16 = .ok (.invokevirtual 295, 3) := by decide +kernel
theorem dX11_take_19 : decode cX11_take 19 = .ok (.invokevirtual 298, 3) := by decide +kernel
theorem dX11_take_22 : decode cX11_take 22 = .ok (.ireturn, 1) := by decide +kernel
theorem dX11_leave_0 : decode cX11_leave 0 = .ok (.aload_n 0, 1) := by decide +kernel
theorem dX11_leave_1 : decode cX11_leave 1 = .ok (.iconst 0, 1) := by decide +kernel
theorem dX11_leave_2 : decode cX11_leave 2 = .ok (.putfield 102, 3) := by decide +kernel
theorem dX11_leave_5 : decode cX11_leave 5 = .ok (.aload_n 0, 1) := by decide +kernel
theorem dX11_leave_6 : decode cX11_leave 6 = .ok (.invokevirtual 292, 3) := by decide +kernel
theorem dX11_leave_9 : decode cX11_leave 9 = .ok (.aload_n 0, 1) := by decide +kernel
theorem dX11_leave_10 : decode cX11_leave 10 = .ok (.aload_n 0, 1) := by decide +kernel
theorem dX11_leave_11 : decode cX11_leave 11 = .ok (.aload_n 0, 1) := by decide +kernel
theorem dX11_leave_12 : decode cX11_leave 12 = .ok (.getfield 29, 3) := by decide +kernel
theorem dX11_leave_15 : decode cX11_leave 15 = .ok (.iload_n 1, 1) := by decide +kernel
theorem dX11_leave_16 : decode cX11_leave 16 = .ok (.invokevirtual 301, 3) := by decide +kernel
theorem dX11_leave_19 : decode cX11_leave 19 = .ok (.invokevirtual 298, 3) := by decide +kernel
theorem dX11_leave_22 : decode cX11_leave 22 = .ok (.ireturn, 1) := by decide +kernel
theorem dX11_mend_0 : decode cX11_mend 0 = .ok (.aload_n 0, 1) := by decide +kernel
theorem dX11_mend_1 : decode cX11_mend 1 = .ok (.iconst 0, 1) := by decide +kernel
theorem dX11_mend_2 : decode cX11_mend 2 = .ok (.putfield 102, 3) := by decide +kernel
theorem dX11_mend_5 : decode cX11_mend 5 = .ok (.aload_n 0, 1) := by decide +kernel
theorem dX11_mend_6 : decode cX11_mend 6 = .ok (.invokevirtual 292, 3) := by decide +kernel
theorem dX11_mend_9 : decode cX11_mend 9 = .ok (.aload_n 0, 1) := by decide +kernel
theorem dX11_mend_10 : decode cX11_mend 10 = .ok (.aload_n 0, 1) := by decide +kernel
theorem dX11_mend_11 : decode cX11_mend 11 = .ok (.iload_n 1, 1) := by decide +kernel
theorem dX11_mend_12 : decode cX11_mend 12 = .ok (.invokevirtual 304, 3) := by decide +kernel
theorem dX11_mend_15 : decode cX11_mend 15 = .ok (.invokevirtual 298, 3) := by decide +kernel
theorem dX11_mend_18 : decode cX11_mend 18 = .ok (.ireturn, 1) := by decide +kernel
theorem dX11_goesOn_0 : decode cX11_goesOn 0 = .ok (.iconst 0, 1) := by decide +kernel
theorem dX11_goesOn_1 : decode cX11_goesOn 1 = .ok (.istore_n 3, 1) := by decide +kernel
theorem dX11_goesOn_2 : decode cX11_goesOn 2 = .ok (.iconst 0, 1) := by decide +kernel
theorem dX11_goesOn_3 : decode cX11_goesOn 3 = .ok (.istore 4, 2) := by decide +kernel
theorem dX11_goesOn_5 : decode cX11_goesOn 5 = .ok (.iload 4, 2) := by decide +kernel
theorem dX11_goesOn_7 : decode cX11_goesOn 7 = .ok (.iload_n 2, 1) := by decide +kernel
theorem dX11_goesOn_8 : decode cX11_goesOn 8 = .ok (.if_icmp .ge 20, 3) := by decide +kernel
theorem dX11_goesOn_11 : decode cX11_goesOn 11 = .ok (.iload_n 3, 1) := by decide +kernel
theorem dX11_goesOn_12 : decode cX11_goesOn 12 = .ok (.aload_n 0, 1) := by decide +kernel
theorem dX11_goesOn_13 : decode cX11_goesOn 13 = .ok (.aload_n 1, 1) := by decide +kernel
theorem dX11_goesOn_14 : decode cX11_goesOn 14 = .ok (.invokevirtual 307, 3) := by decide +kernel
theorem dX11_goesOn_17 : decode cX11_goesOn 17 = .ok (.invokestatic 138, 3) := by decide +kernel
theorem dX11_goesOn_20 : decode cX11_goesOn 20 = .ok (.iadd, 1) := by decide +kernel
theorem dX11_goesOn_21 : decode cX11_goesOn 21 = .ok (.istore_n 3, 1) := by decide +kernel
theorem dX11_goesOn_22 : decode cX11_goesOn 22 = .ok (.iinc 4 1, 3) := by decide +kernel
theorem dX11_goesOn_25 : decode cX11_goesOn 25 = .ok (.goto (-20), 3) := by decide +kernel
theorem dX11_goesOn_28 : decode cX11_goesOn 28 = .ok (.iload_n 3, 1) := by decide +kernel
theorem dX11_goesOn_29 : decode cX11_goesOn 29 = .ok (.ireturn, 1) := by decide +kernel
theorem dX11_minutes_0 : decode cX11_minutes 0 = .ok (.aload_n 0, 1) := by decide +kernel
theorem dX11_minutes_1 : decode cX11_minutes 1 = .ok (.iconst 0, 1) := by decide +kernel
theorem dX11_minutes_2 : decode cX11_minutes 2 = .ok (.putfield 102, 3) := by decide +kernel
theorem dX11_minutes_5 : decode cX11_minutes 5 = .ok (.iload_n 1, 1) := by decide +kernel
theorem dX11_minutes_6 : decode cX11_minutes 6 = .ok (.i2l, 1) := by decide +kernel
theorem dX11_minutes_7 : decode cX11_minutes 7 = .ok (.lconst 0, 1) := by decide +kernel
theorem dX11_minutes_8 : decode cX11_minutes 8 = .ok (.ldc2_w 311, 3) := by decide +kernel
theorem dX11_minutes_11 : decode cX11_minutes 11 = .ok (.invokestatic 116, 3) := by decide +kernel
theorem dX11_minutes_14 : decode cX11_minutes 14 = .ok (.ifCond .ne 5, 3) := by decide +kernel
theorem dX11_minutes_17 : decode cX11_minutes 17 = .ok (.iconst (-1), 1) := by decide +kernel
theorem dX11_minutes_18 : decode cX11_minutes 18 = .ok (.ireturn, 1) := by decide +kernel
theorem dX11_minutes_19 : decode cX11_minutes 19 = .ok (.aload_n 0, 1) := by decide +kernel
theorem dX11_minutes_20 : decode cX11_minutes 20 = .ok (.invokevirtual 292, 3) := by decide +kernel
theorem dX11_minutes_23 : decode cX11_minutes 23 = .ok (.aload_n 0, 1) := by decide +kernel
theorem dX11_minutes_24 : decode cX11_minutes 24 = .ok (.getfield 29, 3) := by decide +kernel
theorem dX11_minutes_27 : decode cX11_minutes 27 = .ok (.bipush 13, 2) := by decide +kernel
theorem dX11_minutes_29 : decode cX11_minutes 29 = .ok (.iaload, 1) := by decide +kernel
theorem dX11_minutes_30 : decode cX11_minutes 30 = .ok (.istore_n 2, 1) := by decide +kernel
theorem dX11_minutes_31 : decode cX11_minutes 31 = .ok (.aload_n 0, 1) := by decide +kernel
theorem dX11_minutes_32 : decode cX11_minutes 32 = .ok (.getfield 29, 3) := by decide +kernel
theorem dX11_minutes_35 : decode cX11_minutes 35 = .ok (.bipush 15, 2) := by decide +kernel
theorem dX11_minutes_37 : decode cX11_minutes 37 = .ok (.iaload, 1) := by decide +kernel
theorem dX11_minutes_38 : decode cX11_minutes 38 = .ok (.istore_n 3, 1) := by decide +kernel
theorem dX11_minutes_39 : decode cX11_minutes 39 = .ok (.aload_n 0, 1) := by decide +kernel
theorem dX11_minutes_40 : decode cX11_minutes 40 = .ok (.aload_n 0, 1) := by decide +kernel
theorem dX11_minutes_41 : decode cX11_minutes 41 = .ok (.getfield 29, 3) := by decide +kernel
theorem dX11_minutes_44 : decode cX11_minutes 44 = .ok (.iload_n 1, 1) := by decide +kernel
theorem dX11_minutes_45 : decode cX11_minutes 45 = .ok (.invokevirtual 313, 3) := by decide +kernel
theorem dX11_minutes_48 : decode cX11_minutes 48 = .ok (.istore 4, 2) := by decide +kernel
theorem dX11_minutes_50 : decode cX11_minutes 50 = .ok (.aload_n 0, 1) := by decide +kernel
theorem dX11_minutes_51 : decode cX11_minutes 51 = .ok (.iconst 0, 1) := by decide +kernel
theorem dX11_minutes_52 : decode cX11_minutes 52 = .ok (.putfield 110, 3) := by decide +kernel
theorem dX11_minutes_55 : decode cX11_minutes 55 = .ok (.aload_n 0, 1) := by decide +kernel
theorem dX11_minutes_56 : decode cX11_minutes 56 = .ok (.aload_n 0, 1) := by decide +kernel
theorem dX11_minutes_57 : decode cX11_minutes 57 = .ok (.getfield 29, 3) := by decide +kernel
theorem dX11_minutes_60 : decode cX11_minutes 60 = .ok (.bipush 13, 2) := by decide +kernel
theorem dX11_minutes_62 : decode cX11_minutes 62 = .ok (.iaload, 1) := by decide +kernel
theorem dX11_minutes_63 : decode cX11_minutes 63 = .ok (.iload_n 2, 1) := by decide +kernel
theorem dX11_minutes_64 : decode cX11_minutes 64 = .ok (.isub, 1) := by decide +kernel
theorem dX11_minutes_65 : decode cX11_minutes 65 = .ok (.i2l, 1) := by decide +kernel
theorem dX11_minutes_66 : decode cX11_minutes 66 = .ok (.invokevirtual 316, 3) := by decide +kernel
theorem dX11_minutes_69 : decode cX11_minutes 69 = .ok (.aload_n 0, 1) := by decide +kernel
theorem dX11_minutes_70 : decode cX11_minutes 70 = .ok (.aload_n 0, 1) := by decide +kernel
theorem dX11_minutes_71 : decode cX11_minutes 71 = .ok (.getfield 29, 3) := by decide +kernel
theorem dX11_minutes_74 : decode cX11_minutes 74 = .ok (.bipush 15, 2) := by decide +kernel
theorem dX11_minutes_76 : decode cX11_minutes 76 = .ok (.iaload, 1) := by decide +kernel
theorem dX11_minutes_77 : decode cX11_minutes 77 = .ok (.iload_n 3, 1) := by decide +kernel
theorem dX11_minutes_78 : decode cX11_minutes 78 = .ok (.iconst (-1), 1) := by decide +kernel
theorem dX11_minutes_79 : decode cX11_minutes 79 = .ok (.ixor, 1) := by decide +kernel
theorem dX11_minutes_80 : decode cX11_minutes 80 = .ok (.iand, 1) := by decide +kernel
theorem dX11_minutes_81 : decode cX11_minutes 81 = .ok (.i2l, 1) := by decide +kernel
theorem dX11_minutes_82 : decode cX11_minutes 82 = .ok (.invokevirtual 316, 3) := by decide +kernel
theorem dX11_minutes_85 : decode cX11_minutes 85 = .ok (.aload_n 0, 1) := by decide +kernel
theorem dX11_minutes_86 : decode cX11_minutes 86 = .ok (.iload 4, 2) := by decide +kernel
theorem dX11_minutes_88 : decode cX11_minutes 88 = .ok (.invokevirtual 283, 3) := by decide +kernel
theorem dX11_minutes_91 : decode cX11_minutes 91 = .ok (.ireturn, 1) := by decide +kernel
theorem dX11_readsAct_0 : decode cX11_readsAct 0 = .ok (.aload_n 0, 1) := by decide +kernel
theorem dX11_readsAct_1 : decode cX11_readsAct 1 = .ok (.getfield 320, 3) := by decide +kernel
theorem dX11_readsAct_4 : decode cX11_readsAct 4 = .ok (.istore_n 1, 1) := by decide +kernel
theorem dX11_readsAct_5 : decode cX11_readsAct 5 = .ok (.aload_n 0, 1) := by decide +kernel
theorem dX11_readsAct_6 : decode cX11_readsAct 6 = .ok (.getfield 56, 3) := by decide +kernel
theorem dX11_readsAct_9 : decode cX11_readsAct 9 = .ok (.iload_n 1, 1) := by decide +kernel
theorem dX11_readsAct_10 : decode cX11_readsAct 10 = .ok (.aload_n 0, 1) := by decide +kernel
theorem dX11_readsAct_11 : decode cX11_readsAct 11 = .ok (.ldc_w 323, 3) := by decide +kernel
theorem dX11_readsAct_14 : decode cX11_readsAct 14 = .ok (.invokevirtual 169, 3) := by decide +kernel
theorem dX11_readsAct_17 : decode cX11_readsAct 17 = .ok (.iastore, 1) := by decide +kernel
theorem dX11_readsAct_18 : decode cX11_readsAct 18 = .ok (.aload_n 0, 1) := by decide +kernel
theorem dX11_readsAct_19 : decode cX11_readsAct 19 = .ok (.dup, 1) := by decide +kernel
theorem dX11_readsAct_20 : decode cX11_readsAct 20 = .ok (.getfield 320, 3) := by decide +kernel
theorem dX11_readsAct_23 : decode cX11_readsAct 23 = .ok (.iconst 1, 1) := by decide +kernel
theorem dX11_readsAct_24 : decode cX11_readsAct 24 = .ok (.iadd, 1) := by decide +kernel
theorem dX11_readsAct_25 : decode cX11_readsAct 25 = .ok (.putfield 320, 3) := by decide +kernel
theorem dX11_readsAct_28 : decode cX11_readsAct 28 = .ok (.aload_n 0, 1) := by decide +kernel
theorem dX11_readsAct_29 : decode cX11_readsAct 29 = .ok (.getfield 59, 3) := by decide +kernel
theorem dX11_readsAct_32 : decode cX11_readsAct 32 = .ok (.iload_n 1, 1) := by decide +kernel
theorem dX11_readsAct_33 : decode cX11_readsAct 33 = .ok (.aload_n 0, 1) := by decide +kernel
theorem dX11_readsAct_34 : decode cX11_readsAct 34 = .ok (.aload_n 0, 1) := by decide +kernel
theorem dX11_readsAct_35 : decode cX11_readsAct 35 = .ok (.getfield 56, 3) := by decide +kernel
theorem dX11_readsAct_38 : decode cX11_readsAct 38 = .ok (.iload_n 1, 1) := by decide +kernel
theorem dX11_readsAct_39 : decode cX11_readsAct 39 = .ok (.iaload, 1) := by decide +kernel
theorem dX11_readsAct_40 : decode cX11_readsAct 40 = .ok (.ifCond .ge 7, 3) := by decide +kernel
theorem dX11_readsAct_43 : decode cX11_readsAct 43 = .ok (.iconst 3, 1) := by decide +kernel
theorem dX11_readsAct_44 : decode cX11_readsAct 44 = .ok (.goto 18, 3) := by decide +kernel
theorem dX11_readsAct_47 : decode cX11_readsAct 47 = .ok (.aload_n 0, 1) := by decide +kernel
theorem dX11_readsAct_48 : decode cX11_readsAct 48 = .ok (.getfield 56, 3) := by decide +kernel
theorem dX11_readsAct_51 : decode cX11_readsAct 51 = .ok (.iload_n 1, 1) := by decide +kernel
theorem dX11_readsAct_52 : decode cX11_readsAct 52 = .ok (.iaload, 1) := by decide +kernel
theorem dX11_readsAct_53 : decode cX11_readsAct 53 = .ok (.iconst 3, 1) := by decide +kernel
theorem dX11_readsAct_54 : decode cX11_readsAct 54 = .ok (.if_icmp .ne 7, 3) := by decide +kernel
theorem dX11_readsAct_57 : decode cX11_readsAct 57 = .ok (.iconst 2, 1) := by decide +kernel
theorem dX11_readsAct_58 : decode cX11_readsAct 58 = .ok (.goto 4, 3) := by decide +kernel
theorem dX11_readsAct_61 : decode cX11_readsAct 61 = .ok (.iconst 1, 1) := by decide +kernel
theorem dX11_readsAct_62 : decode cX11_readsAct 62 = .ok (.invokevirtual 172, 3) := by decide +kernel
theorem dX11_readsAct_65 : decode cX11_readsAct 65 = .ok (.iastore, 1) := by decide +kernel
theorem dX11_readsAct_66 : decode cX11_readsAct 66 = .ok (.aload_n 0, 1) := by decide +kernel
theorem dX11_readsAct_67 : decode cX11_readsAct 67 = .ok (.getfield 59, 3) := by decide +kernel
theorem dX11_readsAct_70 : decode cX11_readsAct 70 = .ok (.iload_n 1, 1) := by decide +kernel
theorem dX11_readsAct_71 : decode cX11_readsAct 71 = .ok (.iaload, 1) := by decide +kernel
theorem dX11_readsAct_72 : decode cX11_readsAct 72 = .ok (.ifCond .lt 13, 3) := by decide +kernel
theorem dX11_readsAct_75 : decode cX11_readsAct 75 = .ok (.aload_n 0, 1) := by decide +kernel
theorem dX11_readsAct_76 : decode cX11_readsAct 76 = .ok (.getfield 56, 3) := by decide +kernel
theorem dX11_readsAct_79 : decode cX11_readsAct 79 = .ok (.iload_n 1, 1) := by decide +kernel
theorem dX11_readsAct_80 : decode cX11_readsAct 80 = .ok (.iaload, 1) := by decide +kernel
theorem dX11_readsAct_81 : decode cX11_readsAct 81 = .ok (.iconst 2, 1) := by decide +kernel
theorem dX11_readsAct_82 : decode cX11_readsAct 82 = .ok (.if_icmp .eq 18, 3) := by decide +kernel
theorem dX11_readsAct_85 : decode cX11_readsAct 85 = .ok (.aload_n 0, 1) := by decide +kernel
theorem dX11_readsAct_86 : decode cX11_readsAct 86 = .ok (.getfield 59, 3) := by decide +kernel
theorem dX11_readsAct_89 : decode cX11_readsAct 89 = .ok (.iload_n 1, 1) := by decide +kernel
theorem dX11_readsAct_90 : decode cX11_readsAct 90 = .ok (.iaload, 1) := by decide +kernel
theorem dX11_readsAct_91 : decode cX11_readsAct 91 = .ok (.ifCond .lt 7, 3) := by decide +kernel
theorem dX11_readsAct_94 : decode cX11_readsAct 94 = .ok (.iconst 1, 1) := by decide +kernel
theorem dX11_readsAct_95 : decode cX11_readsAct 95 = .ok (.goto 4, 3) := by decide +kernel
theorem dX11_readsAct_98 : decode cX11_readsAct 98 = .ok (.iconst 0, 1) := by decide +kernel
theorem dX11_readsAct_99 : decode cX11_readsAct 99 = .ok (.ireturn, 1) := by decide +kernel
theorem dX11_readsAct_100 : decode cX11_readsAct 100 = .ok (.aload_n 0, 1) := by decide +kernel
theorem dX11_readsAct_101 : decode cX11_readsAct 101 = .ok (.getfield 62, 3) := by decide +kernel
theorem dX11_readsAct_104 : decode cX11_readsAct 104 = .ok (.iload_n 1, 1) := by decide +kernel
theorem dX11_readsAct_105 : decode cX11_readsAct 105 = .ok (.aload_n 0, 1) := by decide +kernel
theorem dX11_readsAct_106 : decode cX11_readsAct 106 = .ok (.iconst 1, 1) := by decide +kernel
theorem dX11_readsAct_107 : decode cX11_readsAct 107 = .ok (.invokevirtual 172, 3) := by decide +kernel
theorem dX11_readsAct_110 : decode cX11_readsAct 110 = .ok (.iastore, 1) := by decide +kernel
theorem dX11_readsAct_111 : decode cX11_readsAct 111 = .ok (.aload_n 0, 1) := by decide +kernel
theorem dX11_readsAct_112 : decode cX11_readsAct 112 = .ok (.getfield 62, 3) := by decide +kernel
theorem dX11_readsAct_115 : decode cX11_readsAct 115 = .ok (.iload_n 1, 1) := by decide +kernel
theorem dX11_readsAct_116 : decode cX11_readsAct 116 = .ok (.iaload, 1) := by decide +kernel
theorem dX11_readsAct_117 : decode cX11_readsAct 117 = .ok (.ifCond .lt 7, 3) := by decide +kernel
theorem dX11_readsAct_120 : decode cX11_readsAct 120 = .ok (.iconst 1, 1) := by decide +kernel
theorem dX11_readsAct_121 : decode cX11_readsAct 121 = .ok (.goto 4, 3) := by decide +kernel
theorem dX11_readsAct_124 : decode cX11_readsAct 124 = .ok (.iconst 0, 1) := by decide +kernel
theorem dX11_readsAct_125 : decode cX11_readsAct 125 = .ok (.ireturn, 1) := by decide +kernel
theorem dX11_changes_0 : decode cX11_changes 0 = .ok (.aload_n 0, 1) := by decide +kernel
theorem dX11_changes_1 : decode cX11_changes 1 = .ok (.getfield 29, 3) := by decide +kernel
theorem dX11_changes_4 : decode cX11_changes 4 = .ok (.bipush 8, 2) := by decide +kernel
theorem dX11_changes_6 : decode cX11_changes 6 = .ok (.iaload, 1) := by decide +kernel
theorem dX11_changes_7 : decode cX11_changes 7 = .ok (.istore_n 3, 1) := by decide +kernel
theorem dX11_changes_8 : decode cX11_changes 8 = .ok (.aload_n 0, 1) := by decide +kernel
theorem dX11_changes_9 : decode cX11_changes 9 = .ok (.aload_n 0, 1) := by decide +kernel
theorem dX11_changes_10 : decode cX11_changes 10 = .ok (.getfield 29, 3) := by decide +kernel
theorem dX11_changes_13 : decode cX11_changes 13 = .ok (.iload_n 1, 1) := by decide +kernel
theorem dX11_changes_14 : decode cX11_changes 14 = .ok (.invokevirtual 301, 3) := by decide +kernel
theorem dX11_changes_17 : decode cX11_changes 17 = .ok (.ifCond .lt 19, 3) := by decide +kernel
theorem dX11_changes_20 : decode cX11_changes 20 = .ok (.aload_n 0, 1) := by decide +kernel
theorem dX11_changes_21 : decode cX11_changes 21 = .ok (.aload_n 0, 1) := by decide +kernel
theorem dX11_changes_22 : decode cX11_changes 22 = .ok (.getfield 29, 3) := by decide +kernel
theorem dX11_changes_25 : decode cX11_changes 25 = .ok (.iload_n 2, 1) := by decide +kernel
theorem dX11_changes_26 : decode cX11_changes 26 = .ok (.invokevirtual 295, 3) := by decide +kernel
theorem dX11_changes_29 : decode cX11_changes 29 = .ok (.ifCond .lt 7, 3) := by decide +kernel
theorem dX11_changes_32 : decode cX11_changes 32 = .ok (.iconst 1, 1) := by decide +kernel
theorem dX11_changes_33 : decode cX11_changes 33 = .ok (.goto 4, 3) := by decide +kernel
theorem dX11_changes_36 : decode cX11_changes 36 = .ok (.iconst 0, 1) := by decide +kernel
theorem dX11_changes_37 : decode cX11_changes 37 = .ok (.istore 4, 2) := by decide +kernel
theorem dX11_changes_39 : decode cX11_changes 39 = .ok (.aload_n 0, 1) := by decide +kernel
theorem dX11_changes_40 : decode cX11_changes 40 = .ok (.getfield 29, 3) := by decide +kernel
theorem dX11_changes_43 : decode cX11_changes 43 = .ok (.bipush 8, 2) := by decide +kernel
theorem dX11_changes_45 : decode cX11_changes 45 = .ok (.iload 4, 2) := by decide +kernel
theorem dX11_changes_47 : decode cX11_changes 47 = .ok (.ifCond .eq 13, 3) := by decide +kernel
theorem dX11_changes_50 : decode cX11_changes 50 = .ok (.aload_n 0, 1) := by decide +kernel
theorem dX11_changes_51 : decode cX11_changes 51 = .ok (.getfield 29, 3) := by decide +kernel
theorem dX11_changes_54 : decode cX11_changes 54 = .ok (.bipush 8, 2) := by decide +kernel
theorem dX11_changes_56 : decode cX11_changes 56 = .ok (.iaload, 1) := by decide +kernel
theorem dX11_changes_57 : decode cX11_changes 57 = .ok (.goto 4, 3) := by decide +kernel
theorem dX11_changes_60 : decode cX11_changes 60 = .ok (.iload_n 3, 1) := by decide +kernel
theorem dX11_changes_61 : decode cX11_changes 61 = .ok (.iastore, 1) := by decide +kernel
theorem dX11_changes_62 : decode cX11_changes 62 = .ok (.iload 4, 2) := by decide +kernel
theorem dX11_changes_64 : decode cX11_changes 64 = .ok (.ireturn, 1) := by decide +kernel
theorem dX11_does_0 : decode cX11_does 0 = .ok (.aload_n 0, 1) := by decide +kernel
theorem dX11_does_1 : decode cX11_does 1 = .ok (.getfield 59, 3) := by decide +kernel
theorem dX11_does_4 : decode cX11_does 4 = .ok (.iload_n 1, 1) := by decide +kernel
theorem dX11_does_5 : decode cX11_does 5 = .ok (.iaload, 1) := by decide +kernel
theorem dX11_does_6 : decode cX11_does 6 = .ok (.istore_n 2, 1) := by decide +kernel
theorem dX11_does_7 : decode cX11_does 7 = .ok (.aload_n 0, 1) := by decide +kernel
theorem dX11_does_8 : decode cX11_does 8 = .ok (.getfield 56, 3) := by decide +kernel
theorem dX11_does_11 : decode cX11_does 11 = .ok (.iload_n 1, 1) := by decide +kernel
theorem dX11_does_12 : decode cX11_does 12 = .ok (.iaload, 1) := by decide +kernel
theorem dX11_does_13 : decode cX11_does 13 = .ok (.tableswitch 93 0 3 #[31, 49, 67, 79], 31) := by decide +kernel
theorem dX11_does_44 : decode cX11_does 44 = .ok (.aload_n 0, 1) := by decide +kernel
theorem dX11_does_45 : decode cX11_does 45 = .ok (.aload_n 0, 1) := by decide +kernel
theorem dX11_does_46 : decode cX11_does 46 = .ok (.getfield 29, 3) := by decide +kernel
theorem dX11_does_49 : decode cX11_does 49 = .ok (.iload_n 2, 1) := by decide +kernel
theorem dX11_does_50 : decode cX11_does 50 = .ok (.invokevirtual 295, 3) := by decide +kernel
theorem dX11_does_53 : decode cX11_does 53 = .ok (.ifCond .lt 7, 3) := by decide +kernel
theorem dX11_does_56 : decode cX11_does 56 = .ok (.iconst 1, 1) := by decide +kernel
theorem dX11_does_57 : decode cX11_does 57 = .ok (.goto 4, 3) := by decide +kernel
theorem dX11_does_60 : decode cX11_does 60 = .ok (.iconst 0, 1) := by decide +kernel
theorem dX11_does_61 : decode cX11_does 61 = .ok (.ireturn, 1) := by decide +kernel
theorem dX11_does_62 : decode cX11_does 62 = .ok (.aload_n 0, 1) := by decide +kernel
theorem dX11_does_63 : decode cX11_does 63 = .ok (.aload_n 0, 1) := by decide +kernel
theorem dX11_does_64 : decode cX11_does 64 = .ok (.getfield 29, 3) := by decide +kernel
theorem dX11_does_67 : decode cX11_does 67 = .ok (.iload_n 2, 1) := by decide +kernel
theorem dX11_does_68 : decode cX11_does 68 = .ok (.invokevirtual 301, 3) := by decide +kernel
theorem dX11_does_71 : decode cX11_does 71 = .ok (.ifCond .lt 7, 3) := by decide +kernel
theorem dX11_does_74 : decode cX11_does 74 = .ok (.iconst 1, 1) := by decide +kernel
theorem dX11_does_75 : decode cX11_does 75 = .ok (.goto 4, 3) := by decide +kernel
theorem dX11_does_78 : decode cX11_does 78 = .ok (.iconst 0, 1) := by decide +kernel
theorem dX11_does_79 : decode cX11_does 79 = .ok (.ireturn, 1) := by decide +kernel
theorem dX11_does_80 : decode cX11_does 80 = .ok (.aload_n 0, 1) := by decide +kernel
theorem dX11_does_81 : decode cX11_does 81 = .ok (.iload_n 2, 1) := by decide +kernel
theorem dX11_does_82 : decode cX11_does 82 = .ok (.aload_n 0, 1) := by decide +kernel
theorem dX11_does_83 : decode cX11_does 83 = .ok (.getfield 62, 3) := by decide +kernel
theorem dX11_does_86 : decode cX11_does 86 = .ok (.iload_n 1, 1) := by decide +kernel
theorem dX11_does_87 : decode cX11_does 87 = .ok (.iaload, 1) := by decide +kernel
theorem dX11_does_88 : decode cX11_does 88 = .ok (.invokevirtual 325, 3) := by decide +kernel
theorem dX11_does_91 : decode cX11_does 91 = .ok (.ireturn, 1) := by decide +kernel
theorem dX11_does_92 : decode cX11_does 92 = .ok (.aload_n 0, 1) := by decide +kernel
theorem dX11_does_93 : decode cX11_does 93 = .ok (.iload_n 2, 1) := by decide +kernel
theorem dX11_does_94 : decode cX11_does 94 = .ok (.invokevirtual 304, 3) := by decide +kernel
theorem dX11_does_97 : decode cX11_does 97 = .ok (.ifCond .lt 7, 3) := by decide +kernel
theorem dX11_does_100 : decode cX11_does 100 = .ok (.iconst 1, 1) := by decide +kernel
theorem dX11_does_101 : decode cX11_does 101 = .ok (.goto 4, 3) := by decide +kernel
theorem dX11_does_104 : decode cX11_does 104 = .ok (.iconst 0, 1) := by decide +kernel
theorem dX11_does_105 : decode cX11_does 105 = .ok (.ireturn, 1) := by decide +kernel
theorem dX11_does_106 : decode cX11_does 106 = .ok (.iload_n 2, 1) := by decide +kernel
theorem dX11_does_107 : decode cX11_does 107 = .ok (.bipush 120, 2) := by decide +kernel
theorem dX11_does_109 : decode cX11_does 109 = .ok (.if_icmp .le 5, 3) := by decide +kernel
theorem dX11_does_112 : decode cX11_does 112 = .ok (.iconst 0, 1) := by decide +kernel
theorem dX11_does_113 : decode cX11_does 113 = .ok (.ireturn, 1) := by decide +kernel
theorem dX11_does_114 : decode cX11_does 114 = .ok (.aload_n 0, 1) := by decide +kernel
theorem dX11_does_115 : decode cX11_does 115 = .ok (.aload_n 0, 1) := by decide +kernel
theorem dX11_does_116 : decode cX11_does 116 = .ok (.getfield 29, 3) := by decide +kernel
theorem dX11_does_119 : decode cX11_does 119 = .ok (.iload_n 2, 1) := by decide +kernel
theorem dX11_does_120 : decode cX11_does 120 = .ok (.invokevirtual 313, 3) := by decide +kernel
theorem dX11_does_123 : decode cX11_does 123 = .ok (.pop, 1) := by decide +kernel
theorem dX11_does_124 : decode cX11_does 124 = .ok (.iconst 1, 1) := by decide +kernel
theorem dX11_does_125 : decode cX11_does 125 = .ok (.ireturn, 1) := by decide +kernel
theorem dX11_watch_0 : decode cX11_watch 0 = .ok (.aload_n 0, 1) := by decide +kernel
theorem dX11_watch_1 : decode cX11_watch 1 = .ok (.iconst 0, 1) := by decide +kernel
theorem dX11_watch_2 : decode cX11_watch 2 = .ok (.putfield 102, 3) := by decide +kernel
theorem dX11_watch_5 : decode cX11_watch 5 = .ok (.aload_n 0, 1) := by decide +kernel
theorem dX11_watch_6 : decode cX11_watch 6 = .ok (.bipush 60, 2) := by decide +kernel
theorem dX11_watch_8 : decode cX11_watch 8 = .ok (.invokevirtual 176, 3) := by decide +kernel
theorem dX11_watch_11 : decode cX11_watch 11 = .ok (.istore_n 1, 1) := by decide +kernel
theorem dX11_watch_12 : decode cX11_watch 12 = .ok (.aload_n 0, 1) := by decide +kernel
theorem dX11_watch_13 : decode cX11_watch 13 = .ok (.iconst 0, 1) := by decide +kernel
theorem dX11_watch_14 : decode cX11_watch 14 = .ok (.putfield 320, 3) := by decide +kernel
theorem dX11_watch_17 : decode cX11_watch 17 = .ok (.iconst 1, 1) := by decide +kernel
theorem dX11_watch_18 : decode cX11_watch 18 = .ok (.istore_n 2, 1) := by decide +kernel
theorem dX11_watch_19 : decode cX11_watch 19 = .ok (.iload_n 1, 1) := by decide +kernel
theorem dX11_watch_20 : decode cX11_watch 20 = .ok (.ifCond .le 7, 3) := by decide +kernel
theorem dX11_watch_23 : decode cX11_watch 23 = .ok (.iconst 1, 1) := by decide +kernel
theorem dX11_watch_24 : decode cX11_watch 24 = .ok (.goto 4, 3) := by decide +kernel
theorem dX11_watch_27 : decode cX11_watch 27 = .ok (.iconst 0, 1) := by decide +kernel
theorem dX11_watch_28 : decode cX11_watch 28 = .ok (.istore_n 3, 1) := by decide +kernel
theorem dX11_watch_29 : decode cX11_watch 29 = .ok (.iload_n 3, 1) := by decide +kernel
theorem dX11_watch_30 : decode cX11_watch 30 = .ok (.ifCond .eq 30, 3) := by decide +kernel
theorem dX11_watch_33 : decode cX11_watch 33 = .ok (.aload_n 0, 1) := by decide +kernel
theorem dX11_watch_34 : decode cX11_watch 34 = .ok (.invokevirtual 327, 3) := by decide +kernel
theorem dX11_watch_37 : decode cX11_watch 37 = .ok (.istore_n 2, 1) := by decide +kernel
theorem dX11_watch_38 : decode cX11_watch 38 = .ok (.iload_n 2, 1) := by decide +kernel
theorem dX11_watch_39 : decode cX11_watch 39 = .ok (.ifCond .eq 16, 3) := by decide +kernel
theorem dX11_watch_42 : decode cX11_watch 42 = .ok (.aload_n 0, 1) := by decide +kernel
theorem dX11_watch_43 : decode cX11_watch 43 = .ok (.bipush 59, 2) := by decide +kernel
theorem dX11_watch_45 : decode cX11_watch 45 = .ok (.invokevirtual 183, 3) := by decide +kernel
theorem dX11_watch_48 : decode cX11_watch 48 = .ok (.ifCond .eq 7, 3) := by decide +kernel
theorem dX11_watch_51 : decode cX11_watch 51 = .ok (.iconst 1, 1) := by decide +kernel
theorem dX11_watch_52 : decode cX11_watch 52 = .ok (.goto 4, 3) := by decide +kernel
theorem dX11_watch_55 : decode cX11_watch 55 = .ok (.iconst 0, 1) := by decide +kernel
theorem dX11_watch_56 : decode cX11_watch 56 = .ok (.istore_n 3, 1) := by decide +kernel
theorem dX11_watch_57 : decode cX11_watch 57 = .ok (.goto (-28), 3) := by decide +kernel
theorem dX11_watch_60 : decode cX11_watch 60 = .ok (.aload_n 0, 1) := by decide +kernel
theorem dX11_watch_61 : decode cX11_watch 61 = .ok (.iload_n 1, 1) := by decide +kernel
theorem dX11_watch_62 : decode cX11_watch 62 = .ok (.bipush 60, 2) := by decide +kernel
theorem dX11_watch_64 : decode cX11_watch 64 = .ok (.iload_n 2, 1) := by decide +kernel
theorem dX11_watch_65 : decode cX11_watch 65 = .ok (.invokevirtual 186, 3) := by decide +kernel
theorem dX11_watch_68 : decode cX11_watch 68 = .ok (.istore 4, 2) := by decide +kernel
theorem dX11_watch_70 : decode cX11_watch 70 = .ok (.iload 4, 2) := by decide +kernel
theorem dX11_watch_72 : decode cX11_watch 72 = .ok (.ifCond .ge 6, 3) := by decide +kernel
theorem dX11_watch_75 : decode cX11_watch 75 = .ok (.iload 4, 2) := by decide +kernel
theorem dX11_watch_77 : decode cX11_watch 77 = .ok (.ireturn, 1) := by decide +kernel
theorem dX11_watch_78 : decode cX11_watch 78 = .ok (.aload_n 0, 1) := by decide +kernel
theorem dX11_watch_79 : decode cX11_watch 79 = .ok (.invokevirtual 292, 3) := by decide +kernel
theorem dX11_watch_82 : decode cX11_watch 82 = .ok (.aload_n 0, 1) := by decide +kernel
theorem dX11_watch_83 : decode cX11_watch 83 = .ok (.getfield 29, 3) := by decide +kernel
theorem dX11_watch_86 : decode cX11_watch 86 = .ok (.bipush 13, 2) := by decide +kernel
theorem dX11_watch_88 : decode cX11_watch 88 = .ok (.iaload, 1) := by decide +kernel
theorem dX11_watch_89 : decode cX11_watch 89 = .ok (.istore 5, 2) := by decide +kernel
theorem dX11_watch_91 : decode cX11_watch 91 = .ok (.iconst 0, 1) := by decide +kernel
theorem dX11_watch_92 : decode cX11_watch 92 = .ok (.istore 6, 2) := by decide +kernel
theorem dX11_watch_94 : decode cX11_watch 94 = .ok (.iload 6, 2) := by decide +kernel
theorem dX11_watch_96 : decode cX11_watch 96 = .ok (.aload_n 0, 1) := by decide +kernel
theorem dX11_watch_97 : decode cX11_watch 97 = .ok (.getfield 320, 3) := by decide +kernel
theorem dX11_watch_100 : decode cX11_watch 100 = .ok (.if_icmp .ge 18, 3) := by decide +kernel
theorem dX11_watch_103 : decode cX11_watch 103 = .ok (.aload_n 0, 1) := by decide +kernel
theorem dX11_watch_104 : decode cX11_watch 104 = .ok (.iload 6, 2) := by decide +kernel
theorem dX11_watch_106 : decode cX11_watch 106 = .ok (.invokevirtual 330, 3) := by decide +kernel
theorem dX11_watch_109 : decode cX11_watch 109 = .ok (.ifCond .eq 9, 3) := by decide +kernel
theorem dX11_watch_112 : decode cX11_watch 112 = .ok (.iinc 6 1, 3) := by decide +kernel
theorem dX11_watch_115 : decode cX11_watch 115 = .ok (.goto (-21), 3) := by decide +kernel
theorem dX11_watch_118 : decode cX11_watch 118 = .ok (.aload_n 0, 1) := by decide +kernel
theorem dX11_watch_119 : decode cX11_watch 119 = .ok (.iconst 0, 1) := by decide +kernel
theorem dX11_watch_120 : decode cX11_watch 120 = .ok (.putfield 110, 3) := by decide +kernel
theorem dX11_watch_123 : decode cX11_watch 123 = .ok (.aload_n 0, 1) := by decide +kernel
theorem dX11_watch_124 : decode cX11_watch 124 = .ok (.iload 6, 2) := by decide +kernel
theorem dX11_watch_126 : decode cX11_watch 126 = .ok (.aload_n 0, 1) := by decide +kernel
theorem dX11_watch_127 : decode cX11_watch 127 = .ok (.getfield 320, 3) := by decide +kernel
theorem dX11_watch_130 : decode cX11_watch 130 = .ok (.if_icmp .ge 7, 3) := by decide +kernel
theorem dX11_watch_133 : decode cX11_watch 133 = .ok (.iconst 1, 1) := by decide +kernel
theorem dX11_watch_134 : decode cX11_watch 134 = .ok (.goto 4, 3) := by decide +kernel
theorem dX11_watch_137 : decode cX11_watch 137 = .ok (.iconst 0, 1) := by decide +kernel
theorem dX11_watch_138 : decode cX11_watch 138 = .ok (.invokestatic 138, 3) := by decide +kernel
theorem dX11_watch_141 : decode cX11_watch 141 = .ok (.i2l, 1) := by decide +kernel
theorem dX11_watch_142 : decode cX11_watch 142 = .ok (.invokevirtual 316, 3) := by decide +kernel
theorem dX11_watch_145 : decode cX11_watch 145 = .ok (.aload_n 0, 1) := by decide +kernel
theorem dX11_watch_146 : decode cX11_watch 146 = .ok (.aload_n 0, 1) := by decide +kernel
theorem dX11_watch_147 : decode cX11_watch 147 = .ok (.getfield 29, 3) := by decide +kernel
theorem dX11_watch_150 : decode cX11_watch 150 = .ok (.bipush 13, 2) := by decide +kernel
theorem dX11_watch_152 : decode cX11_watch 152 = .ok (.iaload, 1) := by decide +kernel
theorem dX11_watch_153 : decode cX11_watch 153 = .ok (.iload 5, 2) := by decide +kernel
theorem dX11_watch_155 : decode cX11_watch 155 = .ok (.isub, 1) := by decide +kernel
theorem dX11_watch_156 : decode cX11_watch 156 = .ok (.i2l, 1) := by decide +kernel
theorem dX11_watch_157 : decode cX11_watch 157 = .ok (.invokevirtual 316, 3) := by decide +kernel
theorem dX11_watch_160 : decode cX11_watch 160 = .ok (.iload 6, 2) := by decide +kernel
theorem dX11_watch_162 : decode cX11_watch 162 = .ok (.ifCond .le 12, 3) := by decide +kernel
theorem dX11_watch_165 : decode cX11_watch 165 = .ok (.aload_n 0, 1) := by decide +kernel
theorem dX11_watch_166 : decode cX11_watch 166 = .ok (.iload 6, 2) := by decide +kernel
theorem dX11_watch_168 : decode cX11_watch 168 = .ok (.invokevirtual 283, 3) := by decide +kernel
theorem dX11_watch_171 : decode cX11_watch 171 = .ok (.goto 4, 3) := by decide +kernel
theorem dX11_watch_174 : decode cX11_watch 174 = .ok (.iconst 0, 1) := by decide +kernel
theorem dX11_watch_175 : decode cX11_watch 175 = .ok (.ireturn, 1) := by decide +kernel
theorem dX11_puts_0 : decode cX11_puts 0 = .ok (.iconst 0, 1) := by decide +kernel
theorem dX11_puts_1 : decode cX11_puts 1 = .ok (.istore_n 1, 1) := by decide +kernel
theorem dX11_puts_2 : decode cX11_puts 2 = .ok (.iload_n 1, 1) := by decide +kernel
theorem dX11_puts_3 : decode cX11_puts 3 = .ok (.bipush 16, 2) := by decide +kernel
theorem dX11_puts_5 : decode cX11_puts 5 = .ok (.if_icmp .ge 21, 3) := by decide +kernel
theorem dX11_puts_8 : decode cX11_puts 8 = .ok (.aload_n 0, 1) := by decide +kernel
theorem dX11_puts_9 : decode cX11_puts 9 = .ok (.getfield 32, 3) := by decide +kernel
theorem dX11_puts_12 : decode cX11_puts 12 = .ok (.iload_n 1, 1) := by decide +kernel
theorem dX11_puts_13 : decode cX11_puts 13 = .ok (.aload_n 0, 1) := by decide +kernel
theorem dX11_puts_14 : decode cX11_puts 14 = .ok (.getfield 29, 3) := by decide +kernel
theorem dX11_puts_17 : decode cX11_puts 17 = .ok (.iload_n 1, 1) := by decide +kernel
theorem dX11_puts_18 : decode cX11_puts 18 = .ok (.iaload, 1) := by decide +kernel
theorem dX11_puts_19 : decode cX11_puts 19 = .ok (.iastore, 1) := by decide +kernel
theorem dX11_puts_20 : decode cX11_puts 20 = .ok (.iinc 1 1, 3) := by decide +kernel
theorem dX11_puts_23 : decode cX11_puts 23 = .ok (.goto (-21), 3) := by decide +kernel
theorem dX11_puts_26 : decode cX11_puts 26 = .ok (.return_, 1) := by decide +kernel
theorem dX11_stopsIn_0 : decode cX11_stopsIn 0 = .ok (.aload_n 0, 1) := by decide +kernel
theorem dX11_stopsIn_1 : decode cX11_stopsIn 1 = .ok (.invokevirtual 333, 3) := by decide +kernel
theorem dX11_stopsIn_4 : decode cX11_stopsIn 4 = .ok (.iconst 1, 1) := by decide +kernel
theorem dX11_stopsIn_5 : decode cX11_stopsIn 5 = .ok (.istore_n 1, 1) := by decide +kernel
theorem dX11_stopsIn_6 : decode cX11_stopsIn 6 = .ok (.iload_n 1, 1) := by decide +kernel
theorem dX11_stopsIn_7 : decode cX11_stopsIn 7 = .ok (.sipush 999, 3) := by decide +kernel
theorem dX11_stopsIn_10 : decode cX11_stopsIn 10 = .ok (.if_icmp .gt 37, 3) := by decide +kernel
theorem dX11_stopsIn_13 : decode cX11_stopsIn 13 = .ok (.aload_n 0, 1) := by decide +kernel
theorem dX11_stopsIn_14 : decode cX11_stopsIn 14 = .ok (.aload_n 0, 1) := by decide +kernel
theorem dX11_stopsIn_15 : decode cX11_stopsIn 15 = .ok (.getfield 32, 3) := by decide +kernel
theorem dX11_stopsIn_18 : decode cX11_stopsIn 18 = .ok (.invokevirtual 307, 3) := by decide +kernel
theorem dX11_stopsIn_21 : decode cX11_stopsIn 21 = .ok (.pop, 1) := by decide +kernel
theorem dX11_stopsIn_22 : decode cX11_stopsIn 22 = .ok (.aload_n 0, 1) := by decide +kernel
theorem dX11_stopsIn_23 : decode cX11_stopsIn 23 = .ok (.getfield 32, 3) := by decide +kernel
theorem dX11_stopsIn_26 : decode cX11_stopsIn 26 = .ok (.bipush 13, 2) := by decide +kernel
theorem dX11_stopsIn_28 : decode cX11_stopsIn 28 = .ok (.iaload, 1) := by decide +kernel
theorem dX11_stopsIn_29 : decode cX11_stopsIn 29 = .ok (.aload_n 0, 1) := by decide +kernel
theorem dX11_stopsIn_30 : decode cX11_stopsIn 30 = .ok (.getfield 29, 3) := by decide +kernel
theorem dX11_stopsIn_33 : decode cX11_stopsIn 33 = .ok (.bipush 13, 2) := by decide +kernel
theorem dX11_stopsIn_35 : decode cX11_stopsIn 35 = .ok (.iaload, 1) := by decide +kernel
theorem dX11_stopsIn_36 : decode cX11_stopsIn 36 = .ok (.if_icmp .le 5, 3) := by decide +kernel
theorem dX11_stopsIn_39 : decode cX11_stopsIn 39 = .ok (.iload_n 1, 1) := by decide +kernel
theorem dX11_stopsIn_40 : decode cX11_stopsIn 40 = .ok (.ireturn, 1) := by decide +kernel
theorem dX11_stopsIn_41 : decode cX11_stopsIn 41 = .ok (.iinc 1 1, 3) := by decide +kernel
theorem dX11_stopsIn_44 : decode cX11_stopsIn 44 = .ok (.goto (-38), 3) := by decide +kernel
theorem dX11_stopsIn_47 : decode cX11_stopsIn 47 = .ok (.sipush 1000, 3) := by decide +kernel
theorem dX11_stopsIn_50 : decode cX11_stopsIn 50 = .ok (.ireturn, 1) := by decide +kernel
theorem dX11_lasts_0 : decode cX11_lasts 0 = .ok (.aload_n 0, 1) := by decide +kernel
theorem dX11_lasts_1 : decode cX11_lasts 1 = .ok (.iconst 0, 1) := by decide +kernel
theorem dX11_lasts_2 : decode cX11_lasts 2 = .ok (.putfield 102, 3) := by decide +kernel
theorem dX11_lasts_5 : decode cX11_lasts 5 = .ok (.aload_n 0, 1) := by decide +kernel
theorem dX11_lasts_6 : decode cX11_lasts 6 = .ok (.invokevirtual 336, 3) := by decide +kernel
theorem dX11_lasts_9 : decode cX11_lasts 9 = .ok (.istore_n 1, 1) := by decide +kernel
theorem dX11_lasts_10 : decode cX11_lasts 10 = .ok (.iload_n 1, 1) := by decide +kernel
theorem dX11_lasts_11 : decode cX11_lasts 11 = .ok (.sipush 999, 3) := by decide +kernel
theorem dX11_lasts_14 : decode cX11_lasts 14 = .ok (.if_icmp .le 6, 3) := by decide +kernel
theorem dX11_lasts_17 : decode cX11_lasts 17 = .ok (.bipush (-2), 2) := by decide +kernel
theorem dX11_lasts_19 : decode cX11_lasts 19 = .ok (.ireturn, 1) := by decide +kernel
theorem dX11_lasts_20 : decode cX11_lasts 20 = .ok (.aload_n 0, 1) := by decide +kernel
theorem dX11_lasts_21 : decode cX11_lasts 21 = .ok (.iconst 0, 1) := by decide +kernel
theorem dX11_lasts_22 : decode cX11_lasts 22 = .ok (.putfield 110, 3) := by decide +kernel
theorem dX11_lasts_25 : decode cX11_lasts 25 = .ok (.aload_n 0, 1) := by decide +kernel
theorem dX11_lasts_26 : decode cX11_lasts 26 = .ok (.aload_n 0, 1) := by decide +kernel
theorem dX11_lasts_27 : decode cX11_lasts 27 = .ok (.getfield 32, 3) := by decide +kernel
theorem dX11_lasts_30 : decode cX11_lasts 30 = .ok (.bipush 11, 2) := by decide +kernel
theorem dX11_lasts_32 : decode cX11_lasts 32 = .ok (.iaload, 1) := by decide +kernel
theorem dX11_lasts_33 : decode cX11_lasts 33 = .ok (.aload_n 0, 1) := by decide +kernel
theorem dX11_lasts_34 : decode cX11_lasts 34 = .ok (.getfield 29, 3) := by decide +kernel
theorem dX11_lasts_37 : decode cX11_lasts 37 = .ok (.bipush 11, 2) := by decide +kernel
theorem dX11_lasts_39 : decode cX11_lasts 39 = .ok (.iaload, 1) := by decide +kernel
theorem dX11_lasts_40 : decode cX11_lasts 40 = .ok (.isub, 1) := by decide +kernel
theorem dX11_lasts_41 : decode cX11_lasts 41 = .ok (.i2l, 1) := by decide +kernel
theorem dX11_lasts_42 : decode cX11_lasts 42 = .ok (.invokevirtual 316, 3) := by decide +kernel
theorem dX11_lasts_45 : decode cX11_lasts 45 = .ok (.aload_n 0, 1) := by decide +kernel
theorem dX11_lasts_46 : decode cX11_lasts 46 = .ok (.aload_n 0, 1) := by decide +kernel
theorem dX11_lasts_47 : decode cX11_lasts 47 = .ok (.getfield 32, 3) := by decide +kernel
theorem dX11_lasts_50 : decode cX11_lasts 50 = .ok (.bipush 14, 2) := by decide +kernel
theorem dX11_lasts_52 : decode cX11_lasts 52 = .ok (.iaload, 1) := by decide +kernel
theorem dX11_lasts_53 : decode cX11_lasts 53 = .ok (.aload_n 0, 1) := by decide +kernel
theorem dX11_lasts_54 : decode cX11_lasts 54 = .ok (.getfield 29, 3) := by decide +kernel
theorem dX11_lasts_57 : decode cX11_lasts 57 = .ok (.bipush 14, 2) := by decide +kernel
theorem dX11_lasts_59 : decode cX11_lasts 59 = .ok (.iaload, 1) := by decide +kernel
theorem dX11_lasts_60 : decode cX11_lasts 60 = .ok (.isub, 1) := by decide +kernel
theorem dX11_lasts_61 : decode cX11_lasts 61 = .ok (.i2l, 1) := by decide +kernel
theorem dX11_lasts_62 : decode cX11_lasts 62 = .ok (.invokevirtual 316, 3) := by decide +kernel
theorem dX11_lasts_65 : decode cX11_lasts 65 = .ok (.iload_n 1, 1) := by decide +kernel
theorem dX11_lasts_66 : decode cX11_lasts 66 = .ok (.ireturn, 1) := by decide +kernel
theorem dX11_rungFor_0 : decode cX11_rungFor 0 = .ok (.iconst 0, 1) := by decide +kernel
theorem dX11_rungFor_1 : decode cX11_rungFor 1 = .ok (.istore_n 2, 1) := by decide +kernel
theorem dX11_rungFor_2 : decode cX11_rungFor 2 = .ok (.iload_n 2, 1) := by decide +kernel
theorem dX11_rungFor_3 : decode cX11_rungFor 3 = .ok (.iload_n 1, 1) := by decide +kernel
theorem dX11_rungFor_4 : decode cX11_rungFor 4 = .ok (.if_icmp .ge 22, 3) := by decide +kernel
theorem dX11_rungFor_7 : decode cX11_rungFor 7 = .ok (.aload_n 0, 1) := by decide +kernel
theorem dX11_rungFor_8 : decode cX11_rungFor 8 = .ok (.aload_n 0, 1) := by decide +kernel
theorem dX11_rungFor_9 : decode cX11_rungFor 9 = .ok (.getfield 32, 3) := by decide +kernel
theorem dX11_rungFor_12 : decode cX11_rungFor 12 = .ok (.invokevirtual 307, 3) := by decide +kernel
theorem dX11_rungFor_15 : decode cX11_rungFor 15 = .ok (.ifCond .ne 5, 3) := by decide +kernel
theorem dX11_rungFor_18 : decode cX11_rungFor 18 = .ok (.iload_n 2, 1) := by decide +kernel
theorem dX11_rungFor_19 : decode cX11_rungFor 19 = .ok (.ireturn, 1) := by decide +kernel
theorem dX11_rungFor_20 : decode cX11_rungFor 20 = .ok (.iinc 2 1, 3) := by decide +kernel
theorem dX11_rungFor_23 : decode cX11_rungFor 23 = .ok (.goto (-21), 3) := by decide +kernel
theorem dX11_rungFor_26 : decode cX11_rungFor 26 = .ok (.iload_n 1, 1) := by decide +kernel
theorem dX11_rungFor_27 : decode cX11_rungFor 27 = .ok (.ireturn, 1) := by decide +kernel
theorem dX11_hush_0 : decode cX11_hush 0 = .ok (.aload_n 0, 1) := by decide +kernel
theorem dX11_hush_1 : decode cX11_hush 1 = .ok (.iconst 0, 1) := by decide +kernel
theorem dX11_hush_2 : decode cX11_hush 2 = .ok (.putfield 102, 3) := by decide +kernel
theorem dX11_hush_5 : decode cX11_hush 5 = .ok (.aload_n 0, 1) := by decide +kernel
theorem dX11_hush_6 : decode cX11_hush 6 = .ok (.invokevirtual 333, 3) := by decide +kernel
theorem dX11_hush_9 : decode cX11_hush 9 = .ok (.aload_n 0, 1) := by decide +kernel
theorem dX11_hush_10 : decode cX11_hush 10 = .ok (.sipush 999, 3) := by decide +kernel
theorem dX11_hush_13 : decode cX11_hush 13 = .ok (.invokevirtual 339, 3) := by decide +kernel
theorem dX11_hush_16 : decode cX11_hush 16 = .ok (.istore_n 1, 1) := by decide +kernel
theorem dX11_hush_17 : decode cX11_hush 17 = .ok (.iload_n 1, 1) := by decide +kernel
theorem dX11_hush_18 : decode cX11_hush 18 = .ok (.sipush 999, 3) := by decide +kernel
theorem dX11_hush_21 : decode cX11_hush 21 = .ok (.if_icmp .ne 6, 3) := by decide +kernel
theorem dX11_hush_24 : decode cX11_hush 24 = .ok (.bipush (-2), 2) := by decide +kernel
theorem dX11_hush_26 : decode cX11_hush 26 = .ok (.ireturn, 1) := by decide +kernel
theorem dX11_hush_27 : decode cX11_hush 27 = .ok (.aload_n 0, 1) := by decide +kernel
theorem dX11_hush_28 : decode cX11_hush 28 = .ok (.iconst 0, 1) := by decide +kernel
theorem dX11_hush_29 : decode cX11_hush 29 = .ok (.putfield 110, 3) := by decide +kernel
theorem dX11_hush_32 : decode cX11_hush 32 = .ok (.aload_n 0, 1) := by decide +kernel
theorem dX11_hush_33 : decode cX11_hush 33 = .ok (.aload_n 0, 1) := by decide +kernel
theorem dX11_hush_34 : decode cX11_hush 34 = .ok (.getfield 32, 3) := by decide +kernel
theorem dX11_hush_37 : decode cX11_hush 37 = .ok (.bipush 12, 2) := by decide +kernel
theorem dX11_hush_39 : decode cX11_hush 39 = .ok (.iaload, 1) := by decide +kernel
theorem dX11_hush_40 : decode cX11_hush 40 = .ok (.i2l, 1) := by decide +kernel
theorem dX11_hush_41 : decode cX11_hush 41 = .ok (.invokevirtual 316, 3) := by decide +kernel
theorem dX11_hush_44 : decode cX11_hush 44 = .ok (.iload_n 1, 1) := by decide +kernel
theorem dX11_hush_45 : decode cX11_hush 45 = .ok (.ireturn, 1) := by decide +kernel
theorem dX11_rungBy_0 : decode cX11_rungBy 0 = .ok (.aload_n 0, 1) := by decide +kernel
theorem dX11_rungBy_1 : decode cX11_rungBy 1 = .ok (.invokevirtual 333, 3) := by decide +kernel
theorem dX11_rungBy_4 : decode cX11_rungBy 4 = .ok (.aload_n 0, 1) := by decide +kernel
theorem dX11_rungBy_5 : decode cX11_rungBy 5 = .ok (.getfield 32, 3) := by decide +kernel
theorem dX11_rungBy_8 : decode cX11_rungBy 8 = .ok (.bipush 8, 2) := by decide +kernel
theorem dX11_rungBy_10 : decode cX11_rungBy 10 = .ok (.iload_n 1, 1) := by decide +kernel
theorem dX11_rungBy_11 : decode cX11_rungBy 11 = .ok (.iastore, 1) := by decide +kernel
theorem dX11_rungBy_12 : decode cX11_rungBy 12 = .ok (.aload_n 0, 1) := by decide +kernel
theorem dX11_rungBy_13 : decode cX11_rungBy 13 = .ok (.iload_n 2, 1) := by decide +kernel
theorem dX11_rungBy_14 : decode cX11_rungBy 14 = .ok (.invokevirtual 339, 3) := by decide +kernel
theorem dX11_rungBy_17 : decode cX11_rungBy 17 = .ok (.ireturn, 1) := by decide +kernel
theorem dX11_team_0 : decode cX11_team 0 = .ok (.aload_n 0, 1) := by decide +kernel
theorem dX11_team_1 : decode cX11_team 1 = .ok (.iconst 0, 1) := by decide +kernel
theorem dX11_team_2 : decode cX11_team 2 = .ok (.putfield 102, 3) := by decide +kernel
theorem dX11_team_5 : decode cX11_team 5 = .ok (.iload_n 1, 1) := by decide +kernel
theorem dX11_team_6 : decode cX11_team 6 = .ok (.i2l, 1) := by decide +kernel
theorem dX11_team_7 : decode cX11_team 7 = .ok (.lconst 1, 1) := by decide +kernel
theorem dX11_team_8 : decode cX11_team 8 = .ok (.ldc2_w 311, 3) := by decide +kernel
theorem dX11_team_11 : decode cX11_team 11 = .ok (.invokestatic 116, 3) := by decide +kernel
theorem dX11_team_14 : decode cX11_team 14 = .ok (.ifCond .ne 5, 3) := by decide +kernel
theorem dX11_team_17 : decode cX11_team 17 = .ok (.iconst (-1), 1) := by decide +kernel
theorem dX11_team_18 : decode cX11_team 18 = .ok (.ireturn, 1) := by decide +kernel
theorem dX11_team_19 : decode cX11_team 19 = .ok (.iconst (-1), 1) := by decide +kernel
theorem dX11_team_20 : decode cX11_team 20 = .ok (.istore_n 2, 1) := by decide +kernel
theorem dX11_team_21 : decode cX11_team 21 = .ok (.iconst 1, 1) := by decide +kernel
theorem dX11_team_22 : decode cX11_team 22 = .ok (.istore_n 3, 1) := by decide +kernel
theorem dX11_team_23 : decode cX11_team 23 = .ok (.iload_n 3, 1) := by decide +kernel
theorem dX11_team_24 : decode cX11_team 24 = .ok (.iconst 1, 1) := by decide +kernel
theorem dX11_team_25 : decode cX11_team 25 = .ok (.aload_n 0, 1) := by decide +kernel
theorem dX11_team_26 : decode cX11_team 26 = .ok (.getfield 113, 3) := by decide +kernel
theorem dX11_team_29 : decode cX11_team 29 = .ok (.ishl, 1) := by decide +kernel
theorem dX11_team_30 : decode cX11_team 30 = .ok (.if_icmp .ge 97, 3) := by decide +kernel
theorem dX11_team_33 : decode cX11_team 33 = .ok (.iload_n 3, 1) := by decide +kernel
theorem dX11_team_34 : decode cX11_team 34 = .ok (.invokestatic 248, 3) := by decide +kernel
theorem dX11_team_37 : decode cX11_team 37 = .ok (.istore 4, 2) := by decide +kernel
theorem dX11_team_39 : decode cX11_team 39 = .ok (.iload_n 2, 1) := by decide +kernel
theorem dX11_team_40 : decode cX11_team 40 = .ok (.ifCond .ge 7, 3) := by decide +kernel
theorem dX11_team_43 : decode cX11_team 43 = .ok (.iconst (-1), 1) := by decide +kernel
theorem dX11_team_44 : decode cX11_team 44 = .ok (.goto 10, 3) := by decide +kernel
theorem dX11_team_47 : decode cX11_team 47 = .ok (.iload 4, 2) := by decide +kernel
theorem dX11_team_49 : decode cX11_team 49 = .ok (.iload_n 2, 1) := by decide +kernel
theorem dX11_team_50 : decode cX11_team 50 = .ok (.invokestatic 248, 3) := by decide +kernel
theorem dX11_team_53 : decode cX11_team 53 = .ok (.isub, 1) := by decide +kernel
theorem dX11_team_54 : decode cX11_team 54 = .ok (.istore 5, 2) := by decide +kernel
theorem dX11_team_56 : decode cX11_team 56 = .ok (.iload 5, 2) := by decide +kernel
theorem dX11_team_58 : decode cX11_team 58 = .ok (.ifCond .lt 29, 3) := by decide +kernel
theorem dX11_team_61 : decode cX11_team 61 = .ok (.iload 5, 2) := by decide +kernel
theorem dX11_team_63 : decode cX11_team 63 = .ok (.ifCond .ne 28, 3) := by decide +kernel
theorem dX11_team_66 : decode cX11_team 66 = .ok (.aload_n 0, 1) := by decide +kernel
theorem dX11_team_67 : decode cX11_team 67 = .ok (.iload_n 3, 1) := by decide +kernel
theorem dX11_team_68 : decode cX11_team 68 = .ok (.aload_n 0, 1) := by decide +kernel
theorem dX11_team_69 : decode cX11_team 69 = .ok (.getfield 17, 3) := by decide +kernel
theorem dX11_team_72 : decode cX11_team 72 = .ok (.invokevirtual 244, 3) := by decide +kernel
theorem dX11_team_75 : decode cX11_team 75 = .ok (.aload_n 0, 1) := by decide +kernel
theorem dX11_team_76 : decode cX11_team 76 = .ok (.iload_n 2, 1) := by decide +kernel
theorem dX11_team_77 : decode cX11_team 77 = .ok (.aload_n 0, 1) := by decide +kernel
theorem dX11_team_78 : decode cX11_team 78 = .ok (.getfield 17, 3) := by decide +kernel
theorem dX11_team_81 : decode cX11_team 81 = .ok (.invokevirtual 244, 3) := by decide +kernel
theorem dX11_team_84 : decode cX11_team 84 = .ok (.if_icmp .ge 7, 3) := by decide +kernel
theorem dX11_team_87 : decode cX11_team 87 = .ok (.iconst 1, 1) := by decide +kernel
theorem dX11_team_88 : decode cX11_team 88 = .ok (.goto 4, 3) := by decide +kernel
theorem dX11_team_91 : decode cX11_team 91 = .ok (.iconst 0, 1) := by decide +kernel
theorem dX11_team_92 : decode cX11_team 92 = .ok (.istore 6, 2) := by decide +kernel
theorem dX11_team_94 : decode cX11_team 94 = .ok (.iload 4, 2) := by decide +kernel
theorem dX11_team_96 : decode cX11_team 96 = .ok (.iconst 3, 1) := by decide +kernel
theorem dX11_team_97 : decode cX11_team 97 = .ok (.if_icmp .gt 22, 3) := by decide +kernel
theorem dX11_team_100 : decode cX11_team 100 = .ok (.iload 6, 2) := by decide +kernel
theorem dX11_team_102 : decode cX11_team 102 = .ok (.ifCond .eq 17, 3) := by decide +kernel
theorem dX11_team_105 : decode cX11_team 105 = .ok (.aload_n 0, 1) := by decide +kernel
theorem dX11_team_106 : decode cX11_team 106 = .ok (.iload_n 3, 1) := by decide +kernel
theorem dX11_team_107 : decode cX11_team 107 = .ok (.iload_n 1, 1) := by decide +kernel
theorem dX11_team_108 : decode cX11_team 108 = .ok (.invokevirtual 342, 3) := by decide +kernel
theorem dX11_team_111 : decode cX11_team 111 = .ok (.iload_n 1, 1) := by decide +kernel
theorem dX11_team_112 : decode cX11_team 112 = .ok (.if_icmp .ne 7, 3) := by decide +kernel
theorem dX11_team_115 : decode cX11_team 115 = .ok (.iload_n 3, 1) := by decide +kernel
theorem dX11_team_116 : decode cX11_team 116 = .ok (.goto 4, 3) := by decide +kernel
theorem dX11_team_119 : decode cX11_team 119 = .ok (.iload_n 2, 1) := by decide +kernel
theorem dX11_team_120 : decode cX11_team 120 = .ok (.istore_n 2, 1) := by decide +kernel
theorem dX11_team_121 : decode cX11_team 121 = .ok (.iinc 3 1, 3) := by decide +kernel
theorem dX11_team_124 : decode cX11_team 124 = .ok (.goto (-101), 3) := by decide +kernel
theorem dX11_team_127 : decode cX11_team 127 = .ok (.iload_n 2, 1) := by decide +kernel
theorem dX11_team_128 : decode cX11_team 128 = .ok (.ifCond .ge 6, 3) := by decide +kernel
theorem dX11_team_131 : decode cX11_team 131 = .ok (.bipush (-2), 2) := by decide +kernel
theorem dX11_team_133 : decode cX11_team 133 = .ok (.ireturn, 1) := by decide +kernel
theorem dX11_team_134 : decode cX11_team 134 = .ok (.aload_n 0, 1) := by decide +kernel
theorem dX11_team_135 : decode cX11_team 135 = .ok (.iconst 0, 1) := by decide +kernel
theorem dX11_team_136 : decode cX11_team 136 = .ok (.putfield 110, 3) := by decide +kernel
theorem dX11_team_139 : decode cX11_team 139 = .ok (.aload_n 0, 1) := by decide +kernel
theorem dX11_team_140 : decode cX11_team 140 = .ok (.iload_n 2, 1) := by decide +kernel
theorem dX11_team_141 : decode cX11_team 141 = .ok (.i2l, 1) := by decide +kernel
theorem dX11_team_142 : decode cX11_team 142 = .ok (.invokevirtual 316, 3) := by decide +kernel
theorem dX11_team_145 : decode cX11_team 145 = .ok (.aload_n 0, 1) := by decide +kernel
theorem dX11_team_146 : decode cX11_team 146 = .ok (.aload_n 0, 1) := by decide +kernel
theorem dX11_team_147 : decode cX11_team 147 = .ok (.iload_n 2, 1) := by decide +kernel
theorem dX11_team_148 : decode cX11_team 148 = .ok (.aload_n 0, 1) := by decide +kernel
theorem dX11_team_149 : decode cX11_team 149 = .ok (.getfield 17, 3) := by decide +kernel
theorem dX11_team_152 : decode cX11_team 152 = .ok (.invokevirtual 244, 3) := by decide +kernel
theorem dX11_team_155 : decode cX11_team 155 = .ok (.i2l, 1) := by decide +kernel
theorem dX11_team_156 : decode cX11_team 156 = .ok (.invokevirtual 316, 3) := by decide +kernel
theorem dX11_team_159 : decode cX11_team 159 = .ok (.iload_n 2, 1) := by decide +kernel
theorem dX11_team_160 : decode cX11_team 160 = .ok (.invokestatic 248, 3) := by decide +kernel
theorem dX11_team_163 : decode cX11_team 163 = .ok (.ireturn, 1) := by decide +kernel
theorem dX11_strongest_0 : decode cX11_strongest 0 = .ok (.aload_n 0, 1) := by decide +kernel
theorem dX11_strongest_1 : decode cX11_strongest 1 = .ok (.iconst 0, 1) := by decide +kernel
theorem dX11_strongest_2 : decode cX11_strongest 2 = .ok (.putfield 102, 3) := by decide +kernel
theorem dX11_strongest_5 : decode cX11_strongest 5 = .ok (.iload_n 1, 1) := by decide +kernel
theorem dX11_strongest_6 : decode cX11_strongest 6 = .ok (.i2l, 1) := by decide +kernel
theorem dX11_strongest_7 : decode cX11_strongest 7 = .ok (.lconst 1, 1) := by decide +kernel
theorem dX11_strongest_8 : decode cX11_strongest 8 = .ok (.ldc2_w 278, 3) := by decide +kernel
theorem dX11_strongest_11 : decode cX11_strongest 11 = .ok (.invokestatic 116, 3) := by decide +kernel
theorem dX11_strongest_14 : decode cX11_strongest 14 = .ok (.ifCond .ne 5, 3) := by decide +kernel
theorem dX11_strongest_17 : decode cX11_strongest 17 = .ok (.iconst (-1), 1) := by decide +kernel
theorem dX11_strongest_18 : decode cX11_strongest 18 = .ok (.ireturn, 1) := by decide +kernel
theorem dX11_strongest_19 : decode cX11_strongest 19 = .ok (.iconst (-1), 1) := by decide +kernel
theorem dX11_strongest_20 : decode cX11_strongest 20 = .ok (.istore_n 2, 1) := by decide +kernel
theorem dX11_strongest_21 : decode cX11_strongest 21 = .ok (.bipush (-2), 2) := by decide +kernel
theorem dX11_strongest_23 : decode cX11_strongest 23 = .ok (.istore_n 3, 1) := by decide +kernel
theorem dX11_strongest_24 : decode cX11_strongest 24 = .ok (.iconst 1, 1) := by decide +kernel
theorem dX11_strongest_25 : decode cX11_strongest 25 = .ok (.istore 4, 2) := by decide +kernel
theorem dX11_strongest_27 : decode cX11_strongest 27 = .ok (.iload 4, 2) := by decide +kernel
theorem dX11_strongest_29 : decode cX11_strongest 29 = .ok (.iconst 1, 1) := by decide +kernel
theorem dX11_strongest_30 : decode cX11_strongest 30 = .ok (.aload_n 0, 1) := by decide +kernel
theorem dX11_strongest_31 : decode cX11_strongest 31 = .ok (.getfield 113, 3) := by decide +kernel
theorem dX11_strongest_34 : decode cX11_strongest 34 = .ok (.ishl, 1) := by decide +kernel
theorem dX11_strongest_35 : decode cX11_strongest 35 = .ok (.if_icmp .ge 54, 3) := by decide +kernel
theorem dX11_strongest_38 : decode cX11_strongest 38 = .ok (.iload 4, 2) := by decide +kernel
theorem dX11_strongest_40 : decode cX11_strongest 40 = .ok (.invokestatic 248, 3) := by decide +kernel
theorem dX11_strongest_43 : decode cX11_strongest 43 = .ok (.iload_n 1, 1) := by decide +kernel
theorem dX11_strongest_44 : decode cX11_strongest 44 = .ok (.if_icmp .ne 15, 3) := by decide +kernel
theorem dX11_strongest_47 : decode cX11_strongest 47 = .ok (.aload_n 0, 1) := by decide +kernel
theorem dX11_strongest_48 : decode cX11_strongest 48 = .ok (.iload 4, 2) := by decide +kernel
theorem dX11_strongest_50 : decode cX11_strongest 50 = .ok (.sipush 999, 3) := by decide +kernel
theorem dX11_strongest_53 : decode cX11_strongest 53 = .ok (.invokevirtual 342, 3) := by decide +kernel
theorem dX11_strongest_56 : decode cX11_strongest 56 = .ok (.goto 5, 3) := by decide +kernel
theorem dX11_strongest_59 : decode cX11_strongest 59 = .ok (.bipush (-2), 2) := by decide +kernel
theorem dX11_strongest_61 : decode cX11_strongest 61 = .ok (.istore 5, 2) := by decide +kernel
theorem dX11_strongest_63 : decode cX11_strongest 63 = .ok (.iload 5, 2) := by decide +kernel
theorem dX11_strongest_65 : decode cX11_strongest 65 = .ok (.iload_n 3, 1) := by decide +kernel
theorem dX11_strongest_66 : decode cX11_strongest 66 = .ok (.if_icmp .le 8, 3) := by decide +kernel
theorem dX11_strongest_69 : decode cX11_strongest 69 = .ok (.iload 4, 2) := by decide +kernel
theorem dX11_strongest_71 : decode cX11_strongest 71 = .ok (.goto 4, 3) := by decide +kernel
theorem dX11_strongest_74 : decode cX11_strongest 74 = .ok (.iload_n 2, 1) := by decide +kernel
theorem dX11_strongest_75 : decode cX11_strongest 75 = .ok (.istore_n 2, 1) := by decide +kernel
theorem dX11_strongest_76 : decode cX11_strongest 76 = .ok (.iload_n 3, 1) := by decide +kernel
theorem dX11_strongest_77 : decode cX11_strongest 77 = .ok (.iload 5, 2) := by decide +kernel
theorem dX11_strongest_79 : decode cX11_strongest 79 = .ok (.invokestatic 280, 3) := by decide +kernel
theorem dX11_strongest_82 : decode cX11_strongest 82 = .ok (.istore_n 3, 1) := by decide +kernel
theorem dX11_strongest_83 : decode cX11_strongest 83 = .ok (.iinc 4 1, 3) := by decide +kernel
theorem dX11_strongest_86 : decode cX11_strongest 86 = .ok (.goto (-59), 3) := by decide +kernel
theorem dX11_strongest_89 : decode cX11_strongest 89 = .ok (.iload_n 2, 1) := by decide +kernel
theorem dX11_strongest_90 : decode cX11_strongest 90 = .ok (.ifCond .ge 6, 3) := by decide +kernel
theorem dX11_strongest_93 : decode cX11_strongest 93 = .ok (.bipush (-2), 2) := by decide +kernel
theorem dX11_strongest_95 : decode cX11_strongest 95 = .ok (.ireturn, 1) := by decide +kernel
theorem dX11_strongest_96 : decode cX11_strongest 96 = .ok (.aload_n 0, 1) := by decide +kernel
theorem dX11_strongest_97 : decode cX11_strongest 97 = .ok (.iconst 0, 1) := by decide +kernel
theorem dX11_strongest_98 : decode cX11_strongest 98 = .ok (.putfield 110, 3) := by decide +kernel
theorem dX11_strongest_101 : decode cX11_strongest 101 = .ok (.aload_n 0, 1) := by decide +kernel
theorem dX11_strongest_102 : decode cX11_strongest 102 = .ok (.iload_n 2, 1) := by decide +kernel
theorem dX11_strongest_103 : decode cX11_strongest 103 = .ok (.i2l, 1) := by decide +kernel
theorem dX11_strongest_104 : decode cX11_strongest 104 = .ok (.invokevirtual 316, 3) := by decide +kernel
theorem dX11_strongest_107 : decode cX11_strongest 107 = .ok (.iload_n 3, 1) := by decide +kernel
theorem dX11_strongest_108 : decode cX11_strongest 108 = .ok (.ireturn, 1) := by decide +kernel
theorem dX11_silence_0 : decode cX11_silence 0 = .ok (.aload_n 0, 1) := by decide +kernel
theorem dX11_silence_1 : decode cX11_silence 1 = .ok (.iconst 0, 1) := by decide +kernel
theorem dX11_silence_2 : decode cX11_silence 2 = .ok (.putfield 102, 3) := by decide +kernel
theorem dX11_silence_5 : decode cX11_silence 5 = .ok (.iload_n 1, 1) := by decide +kernel
theorem dX11_silence_6 : decode cX11_silence 6 = .ok (.i2l, 1) := by decide +kernel
theorem dX11_silence_7 : decode cX11_silence 7 = .ok (.lconst 1, 1) := by decide +kernel
theorem dX11_silence_8 : decode cX11_silence 8 = .ok (.ldc2_w 345, 3) := by decide +kernel
theorem dX11_silence_11 : decode cX11_silence 11 = .ok (.invokestatic 116, 3) := by decide +kernel
theorem dX11_silence_14 : decode cX11_silence 14 = .ok (.ifCond .ne 5, 3) := by decide +kernel
theorem dX11_silence_17 : decode cX11_silence 17 = .ok (.iconst (-1), 1) := by decide +kernel
theorem dX11_silence_18 : decode cX11_silence 18 = .ok (.ireturn, 1) := by decide +kernel
theorem dX11_silence_19 : decode cX11_silence 19 = .ok (.aload_n 0, 1) := by decide +kernel
theorem dX11_silence_20 : decode cX11_silence 20 = .ok (.invokevirtual 333, 3) := by decide +kernel
theorem dX11_silence_23 : decode cX11_silence 23 = .ok (.aload_n 0, 1) := by decide +kernel
theorem dX11_silence_24 : decode cX11_silence 24 = .ok (.getfield 29, 3) := by decide +kernel
theorem dX11_silence_27 : decode cX11_silence 27 = .ok (.bipush 12, 2) := by decide +kernel
theorem dX11_silence_29 : decode cX11_silence 29 = .ok (.iaload, 1) := by decide +kernel
theorem dX11_silence_30 : decode cX11_silence 30 = .ok (.istore_n 2, 1) := by decide +kernel
theorem dX11_silence_31 : decode cX11_silence 31 = .ok (.iconst 0, 1) := by decide +kernel
theorem dX11_silence_32 : decode cX11_silence 32 = .ok (.istore_n 3, 1) := by decide +kernel
theorem dX11_silence_33 : decode cX11_silence 33 = .ok (.iconst 1, 1) := by decide +kernel
theorem dX11_silence_34 : decode cX11_silence 34 = .ok (.istore 4, 2) := by decide +kernel
theorem dX11_silence_36 : decode cX11_silence 36 = .ok (.iload 4, 2) := by decide +kernel
theorem dX11_silence_38 : decode cX11_silence 38 = .ok (.iload_n 1, 1) := by decide +kernel
theorem dX11_silence_39 : decode cX11_silence 39 = .ok (.if_icmp .gt 48, 3) := by decide +kernel
theorem dX11_silence_42 : decode cX11_silence 42 = .ok (.aload_n 0, 1) := by decide +kernel
theorem dX11_silence_43 : decode cX11_silence 43 = .ok (.aload_n 0, 1) := by decide +kernel
theorem dX11_silence_44 : decode cX11_silence 44 = .ok (.getfield 32, 3) := by decide +kernel
theorem dX11_silence_47 : decode cX11_silence 47 = .ok (.invokevirtual 307, 3) := by decide +kernel
theorem dX11_silence_50 : decode cX11_silence 50 = .ok (.pop, 1) := by decide +kernel
theorem dX11_silence_51 : decode cX11_silence 51 = .ok (.aload_n 0, 1) := by decide +kernel
theorem dX11_silence_52 : decode cX11_silence 52 = .ok (.getfield 32, 3) := by decide +kernel
theorem dX11_silence_55 : decode cX11_silence 55 = .ok (.bipush 12, 2) := by decide +kernel
theorem dX11_silence_57 : decode cX11_silence 57 = .ok (.iaload, 1) := by decide +kernel
theorem dX11_silence_58 : decode cX11_silence 58 = .ok (.iload_n 2, 1) := by decide +kernel
theorem dX11_silence_59 : decode cX11_silence 59 = .ok (.if_icmp .le 8, 3) := by decide +kernel
theorem dX11_silence_62 : decode cX11_silence 62 = .ok (.iload 4, 2) := by decide +kernel
theorem dX11_silence_64 : decode cX11_silence 64 = .ok (.goto 4, 3) := by decide +kernel
theorem dX11_silence_67 : decode cX11_silence 67 = .ok (.iload_n 3, 1) := by decide +kernel
theorem dX11_silence_68 : decode cX11_silence 68 = .ok (.istore_n 3, 1) := by decide +kernel
theorem dX11_silence_69 : decode cX11_silence 69 = .ok (.iload_n 2, 1) := by decide +kernel
theorem dX11_silence_70 : decode cX11_silence 70 = .ok (.aload_n 0, 1) := by decide +kernel
theorem dX11_silence_71 : decode cX11_silence 71 = .ok (.getfield 32, 3) := by decide +kernel
theorem dX11_silence_74 : decode cX11_silence 74 = .ok (.bipush 12, 2) := by decide +kernel
theorem dX11_silence_76 : decode cX11_silence 76 = .ok (.iaload, 1) := by decide +kernel
theorem dX11_silence_77 : decode cX11_silence 77 = .ok (.invokestatic 280, 3) := by decide +kernel
theorem dX11_silence_80 : decode cX11_silence 80 = .ok (.istore_n 2, 1) := by decide +kernel
theorem dX11_silence_81 : decode cX11_silence 81 = .ok (.iinc 4 1, 3) := by decide +kernel
theorem dX11_silence_84 : decode cX11_silence 84 = .ok (.goto (-48), 3) := by decide +kernel
theorem dX11_silence_87 : decode cX11_silence 87 = .ok (.aload_n 0, 1) := by decide +kernel
theorem dX11_silence_88 : decode cX11_silence 88 = .ok (.iconst 0, 1) := by decide +kernel
theorem dX11_silence_89 : decode cX11_silence 89 = .ok (.putfield 110, 3) := by decide +kernel
theorem dX11_silence_92 : decode cX11_silence 92 = .ok (.aload_n 0, 1) := by decide +kernel
theorem dX11_silence_93 : decode cX11_silence 93 = .ok (.iload_n 3, 1) := by decide +kernel
theorem dX11_silence_94 : decode cX11_silence 94 = .ok (.i2l, 1) := by decide +kernel
theorem dX11_silence_95 : decode cX11_silence 95 = .ok (.invokevirtual 316, 3) := by decide +kernel
theorem dX11_silence_98 : decode cX11_silence 98 = .ok (.aload_n 0, 1) := by decide +kernel
theorem dX11_silence_99 : decode cX11_silence 99 = .ok (.aload_n 0, 1) := by decide +kernel
theorem dX11_silence_100 : decode cX11_silence 100 = .ok (.getfield 32, 3) := by decide +kernel
theorem dX11_silence_103 : decode cX11_silence 103 = .ok (.bipush 9, 2) := by decide +kernel
theorem dX11_silence_105 : decode cX11_silence 105 = .ok (.iaload, 1) := by decide +kernel
theorem dX11_silence_106 : decode cX11_silence 106 = .ok (.i2l, 1) := by decide +kernel
theorem dX11_silence_107 : decode cX11_silence 107 = .ok (.invokevirtual 316, 3) := by decide +kernel
theorem dX11_silence_110 : decode cX11_silence 110 = .ok (.iload_n 2, 1) := by decide +kernel
theorem dX11_silence_111 : decode cX11_silence 111 = .ok (.ireturn, 1) := by decide +kernel
theorem dX11_crowd_0 : decode cX11_crowd 0 = .ok (.aload_n 0, 1) := by decide +kernel
theorem dX11_crowd_1 : decode cX11_crowd 1 = .ok (.iconst 0, 1) := by decide +kernel
theorem dX11_crowd_2 : decode cX11_crowd 2 = .ok (.putfield 102, 3) := by decide +kernel
theorem dX11_crowd_5 : decode cX11_crowd 5 = .ok (.iload_n 1, 1) := by decide +kernel
theorem dX11_crowd_6 : decode cX11_crowd 6 = .ok (.i2l, 1) := by decide +kernel
theorem dX11_crowd_7 : decode cX11_crowd 7 = .ok (.lconst 0, 1) := by decide +kernel
theorem dX11_crowd_8 : decode cX11_crowd 8 = .ok (.ldc2_w 345, 3) := by decide +kernel
theorem dX11_crowd_11 : decode cX11_crowd 11 = .ok (.invokestatic 116, 3) := by decide +kernel
theorem dX11_crowd_14 : decode cX11_crowd 14 = .ok (.ifCond .ne 5, 3) := by decide +kernel
theorem dX11_crowd_17 : decode cX11_crowd 17 = .ok (.iconst (-1), 1) := by decide +kernel
theorem dX11_crowd_18 : decode cX11_crowd 18 = .ok (.ireturn, 1) := by decide +kernel
theorem dX11_crowd_19 : decode cX11_crowd 19 = .ok (.aload_n 0, 1) := by decide +kernel
theorem dX11_crowd_20 : decode cX11_crowd 20 = .ok (.invokevirtual 333, 3) := by decide +kernel
theorem dX11_crowd_23 : decode cX11_crowd 23 = .ok (.iconst 0, 1) := by decide +kernel
theorem dX11_crowd_24 : decode cX11_crowd 24 = .ok (.istore_n 2, 1) := by decide +kernel
theorem dX11_crowd_25 : decode cX11_crowd 25 = .ok (.iconst 1, 1) := by decide +kernel
theorem dX11_crowd_26 : decode cX11_crowd 26 = .ok (.istore_n 3, 1) := by decide +kernel
theorem dX11_crowd_27 : decode cX11_crowd 27 = .ok (.iload_n 3, 1) := by decide +kernel
theorem dX11_crowd_28 : decode cX11_crowd 28 = .ok (.iload_n 1, 1) := by decide +kernel
theorem dX11_crowd_29 : decode cX11_crowd 29 = .ok (.if_icmp .gt 45, 3) := by decide +kernel
theorem dX11_crowd_32 : decode cX11_crowd 32 = .ok (.aload_n 0, 1) := by decide +kernel
theorem dX11_crowd_33 : decode cX11_crowd 33 = .ok (.getfield 32, 3) := by decide +kernel
theorem dX11_crowd_36 : decode cX11_crowd 36 = .ok (.bipush 15, 2) := by decide +kernel
theorem dX11_crowd_38 : decode cX11_crowd 38 = .ok (.iaload, 1) := by decide +kernel
theorem dX11_crowd_39 : decode cX11_crowd 39 = .ok (.istore 4, 2) := by decide +kernel
theorem dX11_crowd_41 : decode cX11_crowd 41 = .ok (.aload_n 0, 1) := by decide +kernel
theorem dX11_crowd_42 : decode cX11_crowd 42 = .ok (.aload_n 0, 1) := by decide +kernel
theorem dX11_crowd_43 : decode cX11_crowd 43 = .ok (.getfield 32, 3) := by decide +kernel
theorem dX11_crowd_46 : decode cX11_crowd 46 = .ok (.invokevirtual 307, 3) := by decide +kernel
theorem dX11_crowd_49 : decode cX11_crowd 49 = .ok (.pop, 1) := by decide +kernel
theorem dX11_crowd_50 : decode cX11_crowd 50 = .ok (.aload_n 0, 1) := by decide +kernel
theorem dX11_crowd_51 : decode cX11_crowd 51 = .ok (.getfield 32, 3) := by decide +kernel
theorem dX11_crowd_54 : decode cX11_crowd 54 = .ok (.bipush 15, 2) := by decide +kernel
theorem dX11_crowd_56 : decode cX11_crowd 56 = .ok (.iaload, 1) := by decide +kernel
theorem dX11_crowd_57 : decode cX11_crowd 57 = .ok (.iload 4, 2) := by decide +kernel
theorem dX11_crowd_59 : decode cX11_crowd 59 = .ok (.if_icmp .eq 7, 3) := by decide +kernel
theorem dX11_crowd_62 : decode cX11_crowd 62 = .ok (.iload_n 3, 1) := by decide +kernel
theorem dX11_crowd_63 : decode cX11_crowd 63 = .ok (.goto 4, 3) := by decide +kernel
theorem dX11_crowd_66 : decode cX11_crowd 66 = .ok (.iload_n 2, 1) := by decide +kernel
theorem dX11_crowd_67 : decode cX11_crowd 67 = .ok (.istore_n 2, 1) := by decide +kernel
theorem dX11_crowd_68 : decode cX11_crowd 68 = .ok (.iinc 3 1, 3) := by decide +kernel
theorem dX11_crowd_71 : decode cX11_crowd 71 = .ok (.goto (-44), 3) := by decide +kernel
theorem dX11_crowd_74 : decode cX11_crowd 74 = .ok (.aload_n 0, 1) := by decide +kernel
theorem dX11_crowd_75 : decode cX11_crowd 75 = .ok (.iconst 0, 1) := by decide +kernel
theorem dX11_crowd_76 : decode cX11_crowd 76 = .ok (.putfield 110, 3) := by decide +kernel
theorem dX11_crowd_79 : decode cX11_crowd 79 = .ok (.aload_n 0, 1) := by decide +kernel
theorem dX11_crowd_80 : decode cX11_crowd 80 = .ok (.iload_n 2, 1) := by decide +kernel
theorem dX11_crowd_81 : decode cX11_crowd 81 = .ok (.i2l, 1) := by decide +kernel
theorem dX11_crowd_82 : decode cX11_crowd 82 = .ok (.invokevirtual 316, 3) := by decide +kernel
theorem dX11_crowd_85 : decode cX11_crowd 85 = .ok (.aload_n 0, 1) := by decide +kernel
theorem dX11_crowd_86 : decode cX11_crowd 86 = .ok (.aload_n 0, 1) := by decide +kernel
theorem dX11_crowd_87 : decode cX11_crowd 87 = .ok (.getfield 32, 3) := by decide +kernel
theorem dX11_crowd_90 : decode cX11_crowd 90 = .ok (.bipush 15, 2) := by decide +kernel
theorem dX11_crowd_92 : decode cX11_crowd 92 = .ok (.iaload, 1) := by decide +kernel
theorem dX11_crowd_93 : decode cX11_crowd 93 = .ok (.invokestatic 248, 3) := by decide +kernel
theorem dX11_crowd_96 : decode cX11_crowd 96 = .ok (.i2l, 1) := by decide +kernel
theorem dX11_crowd_97 : decode cX11_crowd 97 = .ok (.invokevirtual 316, 3) := by decide +kernel
theorem dX11_crowd_100 : decode cX11_crowd 100 = .ok (.aload_n 0, 1) := by decide +kernel
theorem dX11_crowd_101 : decode cX11_crowd 101 = .ok (.getfield 32, 3) := by decide +kernel
theorem dX11_crowd_104 : decode cX11_crowd 104 = .ok (.bipush 15, 2) := by decide +kernel
theorem dX11_crowd_106 : decode cX11_crowd 106 = .ok (.iaload, 1) := by decide +kernel
theorem dX11_crowd_107 : decode cX11_crowd 107 = .ok (.ireturn, 1) := by decide +kernel
theorem dX11_swap_0 : decode cX11_swap 0 = .ok (.aload_n 0, 1) := by decide +kernel
theorem dX11_swap_1 : decode cX11_swap 1 = .ok (.iconst 0, 1) := by decide +kernel
theorem dX11_swap_2 : decode cX11_swap 2 = .ok (.putfield 102, 3) := by decide +kernel
theorem dX11_swap_5 : decode cX11_swap 5 = .ok (.bipush (-2), 2) := by decide +kernel
theorem dX11_swap_7 : decode cX11_swap 7 = .ok (.istore_n 1, 1) := by decide +kernel
theorem dX11_swap_8 : decode cX11_swap 8 = .ok (.iconst (-1), 1) := by decide +kernel
theorem dX11_swap_9 : decode cX11_swap 9 = .ok (.istore_n 2, 1) := by decide +kernel
theorem dX11_swap_10 : decode cX11_swap 10 = .ok (.iconst (-1), 1) := by decide +kernel
theorem dX11_swap_11 : decode cX11_swap 11 = .ok (.istore_n 3, 1) := by decide +kernel
theorem dX11_swap_12 : decode cX11_swap 12 = .ok (.iconst 0, 1) := by decide +kernel
theorem dX11_swap_13 : decode cX11_swap 13 = .ok (.istore 4, 2) := by decide +kernel
theorem dX11_swap_15 : decode cX11_swap 15 = .ok (.iload 4, 2) := by decide +kernel
theorem dX11_swap_17 : decode cX11_swap 17 = .ok (.aload_n 0, 1) := by decide +kernel
theorem dX11_swap_18 : decode cX11_swap 18 = .ok (.getfield 113, 3) := by decide +kernel
theorem dX11_swap_21 : decode cX11_swap 21 = .ok (.if_icmp .ge 100, 3) := by decide +kernel
theorem dX11_swap_24 : decode cX11_swap 24 = .ok (.iconst 0, 1) := by decide +kernel
theorem dX11_swap_25 : decode cX11_swap 25 = .ok (.istore 5, 2) := by decide +kernel
theorem dX11_swap_27 : decode cX11_swap 27 = .ok (.iload 5, 2) := by decide +kernel
theorem dX11_swap_29 : decode cX11_swap 29 = .ok (.aload_n 0, 1) := by decide +kernel
theorem dX11_swap_30 : decode cX11_swap 30 = .ok (.getfield 113, 3) := by decide +kernel
theorem dX11_swap_33 : decode cX11_swap 33 = .ok (.if_icmp .ge 82, 3) := by decide +kernel
theorem dX11_swap_36 : decode cX11_swap 36 = .ok (.aload_n 0, 1) := by decide +kernel
theorem dX11_swap_37 : decode cX11_swap 37 = .ok (.getfield 29, 3) := by decide +kernel
theorem dX11_swap_40 : decode cX11_swap 40 = .ok (.bipush 8, 2) := by decide +kernel
theorem dX11_swap_42 : decode cX11_swap 42 = .ok (.iaload, 1) := by decide +kernel
theorem dX11_swap_43 : decode cX11_swap 43 = .ok (.iload 4, 2) := by decide +kernel
theorem dX11_swap_45 : decode cX11_swap 45 = .ok (.invokestatic 240, 3) := by decide +kernel
theorem dX11_swap_48 : decode cX11_swap 48 = .ok (.ifCond .eq 61, 3) := by decide +kernel
theorem dX11_swap_51 : decode cX11_swap 51 = .ok (.aload_n 0, 1) := by decide +kernel
theorem dX11_swap_52 : decode cX11_swap 52 = .ok (.getfield 29, 3) := by decide +kernel
theorem dX11_swap_55 : decode cX11_swap 55 = .ok (.bipush 8, 2) := by decide +kernel
theorem dX11_swap_57 : decode cX11_swap 57 = .ok (.iaload, 1) := by decide +kernel
theorem dX11_swap_58 : decode cX11_swap 58 = .ok (.iload 5, 2) := by decide +kernel
theorem dX11_swap_60 : decode cX11_swap 60 = .ok (.invokestatic 240, 3) := by decide +kernel
theorem dX11_swap_63 : decode cX11_swap 63 = .ok (.ifCond .ne 46, 3) := by decide +kernel
theorem dX11_swap_66 : decode cX11_swap 66 = .ok (.aload_n 0, 1) := by decide +kernel
theorem dX11_swap_67 : decode cX11_swap 67 = .ok (.aload_n 0, 1) := by decide +kernel
theorem dX11_swap_68 : decode cX11_swap 68 = .ok (.getfield 29, 3) := by decide +kernel
theorem dX11_swap_71 : decode cX11_swap 71 = .ok (.bipush 8, 2) := by decide +kernel
theorem dX11_swap_73 : decode cX11_swap 73 = .ok (.iaload, 1) := by decide +kernel
theorem dX11_swap_74 : decode cX11_swap 74 = .ok (.iconst 1, 1) := by decide +kernel
theorem dX11_swap_75 : decode cX11_swap 75 = .ok (.iload 4, 2) := by decide +kernel
theorem dX11_swap_77 : decode cX11_swap 77 = .ok (.ishl, 1) := by decide +kernel
theorem dX11_swap_78 : decode cX11_swap 78 = .ok (.iconst (-1), 1) := by decide +kernel
theorem dX11_swap_79 : decode cX11_swap 79 = .ok (.ixor, 1) := by decide +kernel
theorem dX11_swap_80 : decode cX11_swap 80 = .ok (.iand, 1) := by decide +kernel
theorem dX11_swap_81 : decode cX11_swap 81 = .ok (.iconst 1, 1) := by decide +kernel
theorem dX11_swap_82 : decode cX11_swap 82 = .ok (.iload 5, 2) := by decide +kernel
theorem dX11_swap_84 : decode cX11_swap 84 = .ok (.ishl, 1) := by decide +kernel
theorem dX11_swap_85 : decode cX11_swap 85 = .ok (.ior, 1) := by decide +kernel
theorem dX11_swap_86 : decode cX11_swap 86 = .ok (.sipush 999, 3) := by decide +kernel
theorem dX11_swap_89 : decode cX11_swap 89 = .ok (.invokevirtual 342, 3) := by decide +kernel
theorem dX11_swap_92 : decode cX11_swap 92 = .ok (.istore 6, 2) := by decide +kernel
theorem dX11_swap_94 : decode cX11_swap 94 = .ok (.iload 6, 2) := by decide +kernel
theorem dX11_swap_96 : decode cX11_swap 96 = .ok (.iload_n 1, 1) := by decide +kernel
theorem dX11_swap_97 : decode cX11_swap 97 = .ok (.if_icmp .le 12, 3) := by decide +kernel
theorem dX11_swap_100 : decode cX11_swap 100 = .ok (.iload 6, 2) := by decide +kernel
theorem dX11_swap_102 : decode cX11_swap 102 = .ok (.istore_n 1, 1) := by decide +kernel
theorem dX11_swap_103 : decode cX11_swap 103 = .ok (.iload 4, 2) := by decide +kernel
theorem dX11_swap_105 : decode cX11_swap 105 = .ok (.istore_n 2, 1) := by decide +kernel
theorem dX11_swap_106 : decode cX11_swap 106 = .ok (.iload 5, 2) := by decide +kernel
theorem dX11_swap_108 : decode cX11_swap 108 = .ok (.istore_n 3, 1) := by decide +kernel
theorem dX11_swap_109 : decode cX11_swap 109 = .ok (.iinc 5 1, 3) := by decide +kernel
theorem dX11_swap_112 : decode cX11_swap 112 = .ok (.goto (-85), 3) := by decide +kernel
theorem dX11_swap_115 : decode cX11_swap 115 = .ok (.iinc 4 1, 3) := by decide +kernel
theorem dX11_swap_118 : decode cX11_swap 118 = .ok (.goto (-103), 3) := by decide +kernel
theorem dX11_swap_121 : decode cX11_swap 121 = .ok (.iload_n 2, 1) := by decide +kernel
theorem dX11_swap_122 : decode cX11_swap 122 = .ok (.ifCond .ge 6, 3) := by decide +kernel
theorem dX11_swap_125 : decode cX11_swap 125 = .ok (.bipush (-2), 2) := by decide +kernel
theorem dX11_swap_127 : decode cX11_swap 127 = .ok (.ireturn, 1) := by decide +kernel
theorem dX11_swap_128 : decode cX11_swap 128 = .ok (.aload_n 0, 1) := by decide +kernel
theorem dX11_swap_129 : decode cX11_swap 129 = .ok (.iconst 0, 1) := by decide +kernel
theorem dX11_swap_130 : decode cX11_swap 130 = .ok (.putfield 110, 3) := by decide +kernel
theorem dX11_swap_133 : decode cX11_swap 133 = .ok (.aload_n 0, 1) := by decide +kernel
theorem dX11_swap_134 : decode cX11_swap 134 = .ok (.iload_n 2, 1) := by decide +kernel
theorem dX11_swap_135 : decode cX11_swap 135 = .ok (.i2l, 1) := by decide +kernel
theorem dX11_swap_136 : decode cX11_swap 136 = .ok (.invokevirtual 316, 3) := by decide +kernel
theorem dX11_swap_139 : decode cX11_swap 139 = .ok (.aload_n 0, 1) := by decide +kernel
theorem dX11_swap_140 : decode cX11_swap 140 = .ok (.iload_n 3, 1) := by decide +kernel
theorem dX11_swap_141 : decode cX11_swap 141 = .ok (.i2l, 1) := by decide +kernel
theorem dX11_swap_142 : decode cX11_swap 142 = .ok (.invokevirtual 316, 3) := by decide +kernel
theorem dX11_swap_145 : decode cX11_swap 145 = .ok (.iload_n 1, 1) := by decide +kernel
theorem dX11_swap_146 : decode cX11_swap 146 = .ok (.ireturn, 1) := by decide +kernel
theorem dX11_ready_0 : decode cX11_ready 0 = .ok (.aload_n 0, 1) := by decide +kernel
theorem dX11_ready_1 : decode cX11_ready 1 = .ok (.iconst 0, 1) := by decide +kernel
theorem dX11_ready_2 : decode cX11_ready 2 = .ok (.putfield 102, 3) := by decide +kernel
theorem dX11_ready_5 : decode cX11_ready 5 = .ok (.aload_n 0, 1) := by decide +kernel
theorem dX11_ready_6 : decode cX11_ready 6 = .ok (.iload_n 1, 1) := by decide +kernel
theorem dX11_ready_7 : decode cX11_ready 7 = .ok (.invokevirtual 260, 3) := by decide +kernel
theorem dX11_ready_10 : decode cX11_ready 10 = .ok (.ifCond .eq 15, 3) := by decide +kernel
theorem dX11_ready_13 : decode cX11_ready 13 = .ok (.iload_n 2, 1) := by decide +kernel
theorem dX11_ready_14 : decode cX11_ready 14 = .ok (.i2l, 1) := by decide +kernel
theorem dX11_ready_15 : decode cX11_ready 15 = .ok (.lconst 1, 1) := by decide +kernel
theorem dX11_ready_16 : decode cX11_ready 16 = .ok (.ldc2_w 347, 3) := by decide +kernel
theorem dX11_ready_19 : decode cX11_ready 19 = .ok (.invokestatic 116, 3) := by decide +kernel
theorem dX11_ready_22 : decode cX11_ready 22 = .ok (.ifCond .ne 5, 3) := by decide +kernel
theorem dX11_ready_25 : decode cX11_ready 25 = .ok (.iconst (-1), 1) := by decide +kernel
theorem dX11_ready_26 : decode cX11_ready 26 = .ok (.ireturn, 1) := by decide +kernel
theorem dX11_ready_27 : decode cX11_ready 27 = .ok (.iconst 0, 1) := by decide +kernel
theorem dX11_ready_28 : decode cX11_ready 28 = .ok (.istore_n 3, 1) := by decide +kernel
theorem dX11_ready_29 : decode cX11_ready 29 = .ok (.iload_n 3, 1) := by decide +kernel
theorem dX11_ready_30 : decode cX11_ready 30 = .ok (.bipush 120, 2) := by decide +kernel
theorem dX11_ready_32 : decode cX11_ready 32 = .ok (.if_icmp .gt 79, 3) := by decide +kernel
theorem dX11_ready_35 : decode cX11_ready 35 = .ok (.aload_n 0, 1) := by decide +kernel
theorem dX11_ready_36 : decode cX11_ready 36 = .ok (.invokevirtual 333, 3) := by decide +kernel
theorem dX11_ready_39 : decode cX11_ready 39 = .ok (.aload_n 0, 1) := by decide +kernel
theorem dX11_ready_40 : decode cX11_ready 40 = .ok (.getfield 32, 3) := by decide +kernel
theorem dX11_ready_43 : decode cX11_ready 43 = .ok (.bipush 8, 2) := by decide +kernel
theorem dX11_ready_45 : decode cX11_ready 45 = .ok (.dup2, 1) := by decide +kernel
theorem dX11_ready_46 : decode cX11_ready 46 = .ok (.iaload, 1) := by decide +kernel
theorem dX11_ready_47 : decode cX11_ready 47 = .ok (.iconst 1, 1) := by decide +kernel
theorem dX11_ready_48 : decode cX11_ready 48 = .ok (.iload_n 1, 1) := by decide +kernel
theorem dX11_ready_49 : decode cX11_ready 49 = .ok (.ishl, 1) := by decide +kernel
theorem dX11_ready_50 : decode cX11_ready 50 = .ok (.iconst (-1), 1) := by decide +kernel
theorem dX11_ready_51 : decode cX11_ready 51 = .ok (.ixor, 1) := by decide +kernel
theorem dX11_ready_52 : decode cX11_ready 52 = .ok (.iand, 1) := by decide +kernel
theorem dX11_ready_53 : decode cX11_ready 53 = .ok (.iastore, 1) := by decide +kernel
theorem dX11_ready_54 : decode cX11_ready 54 = .ok (.aload_n 0, 1) := by decide +kernel
theorem dX11_ready_55 : decode cX11_ready 55 = .ok (.aload_n 0, 1) := by decide +kernel
theorem dX11_ready_56 : decode cX11_ready 56 = .ok (.getfield 32, 3) := by decide +kernel
theorem dX11_ready_59 : decode cX11_ready 59 = .ok (.iload_n 3, 1) := by decide +kernel
theorem dX11_ready_60 : decode cX11_ready 60 = .ok (.invokevirtual 313, 3) := by decide +kernel
theorem dX11_ready_63 : decode cX11_ready 63 = .ok (.pop, 1) := by decide +kernel
theorem dX11_ready_64 : decode cX11_ready 64 = .ok (.aload_n 0, 1) := by decide +kernel
theorem dX11_ready_65 : decode cX11_ready 65 = .ok (.getfield 32, 3) := by decide +kernel
theorem dX11_ready_68 : decode cX11_ready 68 = .ok (.bipush 8, 2) := by decide +kernel
theorem dX11_ready_70 : decode cX11_ready 70 = .ok (.iconst 1, 1) := by decide +kernel
theorem dX11_ready_71 : decode cX11_ready 71 = .ok (.iload_n 1, 1) := by decide +kernel
theorem dX11_ready_72 : decode cX11_ready 72 = .ok (.ishl, 1) := by decide +kernel
theorem dX11_ready_73 : decode cX11_ready 73 = .ok (.iastore, 1) := by decide +kernel
theorem dX11_ready_74 : decode cX11_ready 74 = .ok (.aload_n 0, 1) := by decide +kernel
theorem dX11_ready_75 : decode cX11_ready 75 = .ok (.getfield 32, 3) := by decide +kernel
theorem dX11_ready_78 : decode cX11_ready 78 = .ok (.iload_n 1, 1) := by decide +kernel
theorem dX11_ready_79 : decode cX11_ready 79 = .ok (.iaload, 1) := by decide +kernel
theorem dX11_ready_80 : decode cX11_ready 80 = .ok (.istore 4, 2) := by decide +kernel
theorem dX11_ready_82 : decode cX11_ready 82 = .ok (.aload_n 0, 1) := by decide +kernel
theorem dX11_ready_83 : decode cX11_ready 83 = .ok (.iload_n 2, 1) := by decide +kernel
theorem dX11_ready_84 : decode cX11_ready 84 = .ok (.invokevirtual 339, 3) := by decide +kernel
theorem dX11_ready_87 : decode cX11_ready 87 = .ok (.iload_n 2, 1) := by decide +kernel
theorem dX11_ready_88 : decode cX11_ready 88 = .ok (.if_icmp .ne 17, 3) := by decide +kernel
theorem dX11_ready_91 : decode cX11_ready 91 = .ok (.aload_n 0, 1) := by decide +kernel
theorem dX11_ready_92 : decode cX11_ready 92 = .ok (.iconst 0, 1) := by decide +kernel
theorem dX11_ready_93 : decode cX11_ready 93 = .ok (.putfield 110, 3) := by decide +kernel
theorem dX11_ready_96 : decode cX11_ready 96 = .ok (.aload_n 0, 1) := by decide +kernel
theorem dX11_ready_97 : decode cX11_ready 97 = .ok (.iload 4, 2) := by decide +kernel
theorem dX11_ready_99 : decode cX11_ready 99 = .ok (.i2l, 1) := by decide +kernel
theorem dX11_ready_100 : decode cX11_ready 100 = .ok (.invokevirtual 316, 3) := by decide +kernel
theorem dX11_ready_103 : decode cX11_ready 103 = .ok (.iload_n 3, 1) := by decide +kernel
theorem dX11_ready_104 : decode cX11_ready 104 = .ok (.ireturn, 1) := by decide +kernel
theorem dX11_ready_105 : decode cX11_ready 105 = .ok (.iinc 3 1, 3) := by decide +kernel
theorem dX11_ready_108 : decode cX11_ready 108 = .ok (.goto (-79), 3) := by decide +kernel
theorem dX11_ready_111 : decode cX11_ready 111 = .ok (.bipush (-2), 2) := by decide +kernel
theorem dX11_ready_113 : decode cX11_ready 113 = .ok (.ireturn, 1) := by decide +kernel
theorem dX11_isFine_0 : decode cX11_isFine 0 = .ok (.aload_n 0, 1) := by decide +kernel
theorem dX11_isFine_1 : decode cX11_isFine 1 = .ok (.invokevirtual 333, 3) := by decide +kernel
theorem dX11_isFine_4 : decode cX11_isFine 4 = .ok (.iconst 0, 1) := by decide +kernel
theorem dX11_isFine_5 : decode cX11_isFine 5 = .ok (.istore_n 3, 1) := by decide +kernel
theorem dX11_isFine_6 : decode cX11_isFine 6 = .ok (.iload_n 3, 1) := by decide +kernel
theorem dX11_isFine_7 : decode cX11_isFine 7 = .ok (.iload_n 1, 1) := by decide +kernel
theorem dX11_isFine_8 : decode cX11_isFine 8 = .ok (.if_icmp .ge 34, 3) := by decide +kernel
theorem dX11_isFine_11 : decode cX11_isFine 11 = .ok (.aload_n 0, 1) := by decide +kernel
theorem dX11_isFine_12 : decode cX11_isFine 12 = .ok (.getfield 32, 3) := by decide +kernel
theorem dX11_isFine_15 : decode cX11_isFine 15 = .ok (.bipush 8, 2) := by decide +kernel
theorem dX11_isFine_17 : decode cX11_isFine 17 = .ok (.iconst 1, 1) := by decide +kernel
theorem dX11_isFine_18 : decode cX11_isFine 18 = .ok (.aload_n 0, 1) := by decide +kernel
theorem dX11_isFine_19 : decode cX11_isFine 19 = .ok (.getfield 65, 3) := by decide +kernel
theorem dX11_isFine_22 : decode cX11_isFine 22 = .ok (.iload_n 3, 1) := by decide +kernel
theorem dX11_isFine_23 : decode cX11_isFine 23 = .ok (.iaload, 1) := by decide +kernel
theorem dX11_isFine_24 : decode cX11_isFine 24 = .ok (.ishl, 1) := by decide +kernel
theorem dX11_isFine_25 : decode cX11_isFine 25 = .ok (.iastore, 1) := by decide +kernel
theorem dX11_isFine_26 : decode cX11_isFine 26 = .ok (.aload_n 0, 1) := by decide +kernel
theorem dX11_isFine_27 : decode cX11_isFine 27 = .ok (.aload_n 0, 1) := by decide +kernel
theorem dX11_isFine_28 : decode cX11_isFine 28 = .ok (.getfield 32, 3) := by decide +kernel
theorem dX11_isFine_31 : decode cX11_isFine 31 = .ok (.iload_n 2, 1) := by decide +kernel
theorem dX11_isFine_32 : decode cX11_isFine 32 = .ok (.invokevirtual 313, 3) := by decide +kernel
theorem dX11_isFine_35 : decode cX11_isFine 35 = .ok (.pop, 1) := by decide +kernel
theorem dX11_isFine_36 : decode cX11_isFine 36 = .ok (.iinc 3 1, 3) := by decide +kernel
theorem dX11_isFine_39 : decode cX11_isFine 39 = .ok (.goto (-33), 3) := by decide +kernel
theorem dX11_isFine_42 : decode cX11_isFine 42 = .ok (.aload_n 0, 1) := by decide +kernel
theorem dX11_isFine_43 : decode cX11_isFine 43 = .ok (.getfield 32, 3) := by decide +kernel
theorem dX11_isFine_46 : decode cX11_isFine 46 = .ok (.bipush 13, 2) := by decide +kernel
theorem dX11_isFine_48 : decode cX11_isFine 48 = .ok (.iaload, 1) := by decide +kernel
theorem dX11_isFine_49 : decode cX11_isFine 49 = .ok (.aload_n 0, 1) := by decide +kernel
theorem dX11_isFine_50 : decode cX11_isFine 50 = .ok (.getfield 29, 3) := by decide +kernel
theorem dX11_isFine_53 : decode cX11_isFine 53 = .ok (.bipush 13, 2) := by decide +kernel
theorem dX11_isFine_55 : decode cX11_isFine 55 = .ok (.iaload, 1) := by decide +kernel
theorem dX11_isFine_56 : decode cX11_isFine 56 = .ok (.if_icmp .ne 7, 3) := by decide +kernel
theorem dX11_isFine_59 : decode cX11_isFine 59 = .ok (.iconst 1, 1) := by decide +kernel
theorem dX11_isFine_60 : decode cX11_isFine 60 = .ok (.goto 4, 3) := by decide +kernel
theorem dX11_isFine_63 : decode cX11_isFine 63 = .ok (.iconst 0, 1) := by decide +kernel
theorem dX11_isFine_64 : decode cX11_isFine 64 = .ok (.ireturn, 1) := by decide +kernel
theorem dX11_costOf_0 : decode cX11_costOf 0 = .ok (.iconst 0, 1) := by decide +kernel
theorem dX11_costOf_1 : decode cX11_costOf 1 = .ok (.istore 4, 2) := by decide +kernel
theorem dX11_costOf_3 : decode cX11_costOf 3 = .ok (.iconst 0, 1) := by decide +kernel
theorem dX11_costOf_4 : decode cX11_costOf 4 = .ok (.istore 5, 2) := by decide +kernel
theorem dX11_costOf_6 : decode cX11_costOf 6 = .ok (.iconst 0, 1) := by decide +kernel
theorem dX11_costOf_7 : decode cX11_costOf 7 = .ok (.istore 6, 2) := by decide +kernel
theorem dX11_costOf_9 : decode cX11_costOf 9 = .ok (.iload 6, 2) := by decide +kernel
theorem dX11_costOf_11 : decode cX11_costOf 11 = .ok (.iload_n 1, 1) := by decide +kernel
theorem dX11_costOf_12 : decode cX11_costOf 12 = .ok (.if_icmp .ge 42, 3) := by decide +kernel
theorem dX11_costOf_15 : decode cX11_costOf 15 = .ok (.iload 4, 2) := by decide +kernel
theorem dX11_costOf_17 : decode cX11_costOf 17 = .ok (.iconst 1, 1) := by decide +kernel
theorem dX11_costOf_18 : decode cX11_costOf 18 = .ok (.aload_n 0, 1) := by decide +kernel
theorem dX11_costOf_19 : decode cX11_costOf 19 = .ok (.getfield 65, 3) := by decide +kernel
theorem dX11_costOf_22 : decode cX11_costOf 22 = .ok (.iload 6, 2) := by decide +kernel
theorem dX11_costOf_24 : decode cX11_costOf 24 = .ok (.iaload, 1) := by decide +kernel
theorem dX11_costOf_25 : decode cX11_costOf 25 = .ok (.ishl, 1) := by decide +kernel
theorem dX11_costOf_26 : decode cX11_costOf 26 = .ok (.ior, 1) := by decide +kernel
theorem dX11_costOf_27 : decode cX11_costOf 27 = .ok (.istore 4, 2) := by decide +kernel
theorem dX11_costOf_29 : decode cX11_costOf 29 = .ok (.iload 5, 2) := by decide +kernel
theorem dX11_costOf_31 : decode cX11_costOf 31 = .ok (.iload_n 2, 1) := by decide +kernel
theorem dX11_costOf_32 : decode cX11_costOf 32 = .ok (.aload_n 0, 1) := by decide +kernel
theorem dX11_costOf_33 : decode cX11_costOf 33 = .ok (.getfield 17, 3) := by decide +kernel
theorem dX11_costOf_36 : decode cX11_costOf 36 = .ok (.aload_n 0, 1) := by decide +kernel
theorem dX11_costOf_37 : decode cX11_costOf 37 = .ok (.getfield 65, 3) := by decide +kernel
theorem dX11_costOf_40 : decode cX11_costOf 40 = .ok (.iload 6, 2) := by decide +kernel
theorem dX11_costOf_42 : decode cX11_costOf 42 = .ok (.iaload, 1) := by decide +kernel
theorem dX11_costOf_43 : decode cX11_costOf 43 = .ok (.iaload, 1) := by decide +kernel
theorem dX11_costOf_44 : decode cX11_costOf 44 = .ok (.imul, 1) := by decide +kernel
theorem dX11_costOf_45 : decode cX11_costOf 45 = .ok (.iadd, 1) := by decide +kernel
theorem dX11_costOf_46 : decode cX11_costOf 46 = .ok (.istore 5, 2) := by decide +kernel
theorem dX11_costOf_48 : decode cX11_costOf 48 = .ok (.iinc 6 1, 3) := by decide +kernel
theorem dX11_costOf_51 : decode cX11_costOf 51 = .ok (.goto (-42), 3) := by decide +kernel
theorem dX11_costOf_54 : decode cX11_costOf 54 = .ok (.iload_n 3, 1) := by decide +kernel
theorem dX11_costOf_55 : decode cX11_costOf 55 = .ok (.ifCond .eq 8, 3) := by decide +kernel
theorem dX11_costOf_58 : decode cX11_costOf 58 = .ok (.iload 5, 2) := by decide +kernel
theorem dX11_costOf_60 : decode cX11_costOf 60 = .ok (.goto 8, 3) := by decide +kernel
theorem dX11_costOf_63 : decode cX11_costOf 63 = .ok (.iload 4, 2) := by decide +kernel
theorem dX11_costOf_65 : decode cX11_costOf 65 = .ok (.invokestatic 248, 3) := by decide +kernel
theorem dX11_costOf_68 : decode cX11_costOf 68 = .ok (.ireturn, 1) := by decide +kernel
theorem dX11_rotasFrom_0 : decode cX11_rotasFrom 0 = .ok (.iload_n 1, 1) := by decide +kernel
theorem dX11_rotasFrom_1 : decode cX11_rotasFrom 1 = .ok (.iload_n 2, 1) := by decide +kernel
theorem dX11_rotasFrom_2 : decode cX11_rotasFrom 2 = .ok (.if_icmp .ne 67, 3) := by decide +kernel
theorem dX11_rotasFrom_5 : decode cX11_rotasFrom 5 = .ok (.aload_n 0, 1) := by decide +kernel
theorem dX11_rotasFrom_6 : decode cX11_rotasFrom 6 = .ok (.iload_n 2, 1) := by decide +kernel
theorem dX11_rotasFrom_7 : decode cX11_rotasFrom 7 = .ok (.iload_n 3, 1) := by decide +kernel
theorem dX11_rotasFrom_8 : decode cX11_rotasFrom 8 = .ok (.iload 4, 2) := by decide +kernel
theorem dX11_rotasFrom_10 : decode cX11_rotasFrom 10 = .ok (.invokevirtual 349, 3) := by decide +kernel
theorem dX11_rotasFrom_13 : decode cX11_rotasFrom 13 = .ok (.istore 5, 2) := by decide +kernel
theorem dX11_rotasFrom_15 : decode cX11_rotasFrom 15 = .ok (.iload 5, 2) := by decide +kernel
theorem dX11_rotasFrom_17 : decode cX11_rotasFrom 17 = .ok (.aload_n 0, 1) := by decide +kernel
theorem dX11_rotasFrom_18 : decode cX11_rotasFrom 18 = .ok (.getfield 352, 3) := by decide +kernel
theorem dX11_rotasFrom_21 : decode cX11_rotasFrom 21 = .ok (.if_icmp .ge 47, 3) := by decide +kernel
theorem dX11_rotasFrom_24 : decode cX11_rotasFrom 24 = .ok (.aload_n 0, 1) := by decide +kernel
theorem dX11_rotasFrom_25 : decode cX11_rotasFrom 25 = .ok (.iload_n 2, 1) := by decide +kernel
theorem dX11_rotasFrom_26 : decode cX11_rotasFrom 26 = .ok (.iload_n 3, 1) := by decide +kernel
theorem dX11_rotasFrom_27 : decode cX11_rotasFrom 27 = .ok (.invokevirtual 355, 3) := by decide +kernel
theorem dX11_rotasFrom_30 : decode cX11_rotasFrom 30 = .ok (.ifCond .eq 38, 3) := by decide +kernel
theorem dX11_rotasFrom_33 : decode cX11_rotasFrom 33 = .ok (.aload_n 0, 1) := by decide +kernel
theorem dX11_rotasFrom_34 : decode cX11_rotasFrom 34 = .ok (.iload 5, 2) := by decide +kernel
theorem dX11_rotasFrom_36 : decode cX11_rotasFrom 36 = .ok (.putfield 352, 3) := by decide +kernel
theorem dX11_rotasFrom_39 : decode cX11_rotasFrom 39 = .ok (.iconst 0, 1) := by decide +kernel
theorem dX11_rotasFrom_40 : decode cX11_rotasFrom 40 = .ok (.istore 6, 2) := by decide +kernel
theorem dX11_rotasFrom_42 : decode cX11_rotasFrom 42 = .ok (.iload 6, 2) := by decide +kernel
theorem dX11_rotasFrom_44 : decode cX11_rotasFrom 44 = .ok (.iload_n 2, 1) := by decide +kernel
theorem dX11_rotasFrom_45 : decode cX11_rotasFrom 45 = .ok (.if_icmp .ge 23, 3) := by decide +kernel
theorem dX11_rotasFrom_48 : decode cX11_rotasFrom 48 = .ok (.aload_n 0, 1) := by decide +kernel
theorem dX11_rotasFrom_49 : decode cX11_rotasFrom 49 = .ok (.getfield 68, 3) := by decide +kernel
theorem dX11_rotasFrom_52 : decode cX11_rotasFrom 52 = .ok (.iload 6, 2) := by decide +kernel
theorem dX11_rotasFrom_54 : decode cX11_rotasFrom 54 = .ok (.aload_n 0, 1) := by decide +kernel
theorem dX11_rotasFrom_55 : decode cX11_rotasFrom 55 = .ok (.getfield 65, 3) := by decide +kernel
theorem dX11_rotasFrom_58 : decode cX11_rotasFrom 58 = .ok (.iload 6, 2) := by decide +kernel
theorem dX11_rotasFrom_60 : decode cX11_rotasFrom 60 = .ok (.iaload, 1) := by decide +kernel
theorem dX11_rotasFrom_61 : decode cX11_rotasFrom 61 = .ok (.iastore, 1) := by decide +kernel
theorem dX11_rotasFrom_62 : decode cX11_rotasFrom 62 = .ok (.iinc 6 1, 3) := by decide +kernel
theorem dX11_rotasFrom_65 : decode cX11_rotasFrom 65 = .ok (.goto (-23), 3) := by decide +kernel
theorem dX11_rotasFrom_68 : decode cX11_rotasFrom 68 = .ok (.return_, 1) := by decide +kernel
theorem dX11_rotasFrom_69 : decode cX11_rotasFrom 69 = .ok (.iconst 0, 1) := by decide +kernel
theorem dX11_rotasFrom_70 : decode cX11_rotasFrom 70 = .ok (.istore 5, 2) := by decide +kernel
theorem dX11_rotasFrom_72 : decode cX11_rotasFrom 72 = .ok (.iload 5, 2) := by decide +kernel
theorem dX11_rotasFrom_74 : decode cX11_rotasFrom 74 = .ok (.aload_n 0, 1) := by decide +kernel
theorem dX11_rotasFrom_75 : decode cX11_rotasFrom 75 = .ok (.getfield 113, 3) := by decide +kernel
theorem dX11_rotasFrom_78 : decode cX11_rotasFrom 78 = .ok (.if_icmp .ge 28, 3) := by decide +kernel
theorem dX11_rotasFrom_81 : decode cX11_rotasFrom 81 = .ok (.aload_n 0, 1) := by decide +kernel
theorem dX11_rotasFrom_82 : decode cX11_rotasFrom 82 = .ok (.getfield 65, 3) := by decide +kernel
theorem dX11_rotasFrom_85 : decode cX11_rotasFrom 85 = .ok (.iload_n 1, 1) := by decide +kernel
theorem dX11_rotasFrom_86 : decode cX11_rotasFrom 86 = .ok (.iload 5, 2) := by decide +kernel
theorem dX11_rotasFrom_88 : decode cX11_rotasFrom 88 = .ok (.iastore, 1) := by decide +kernel
theorem dX11_rotasFrom_89 : decode cX11_rotasFrom 89 = .ok (.aload_n 0, 1) := by decide +kernel
theorem dX11_rotasFrom_90 : decode cX11_rotasFrom 90 = .ok (.iload_n 1, 1) := by decide +kernel
theorem dX11_rotasFrom_91 : decode cX11_rotasFrom 91 = .ok (.iconst 1, 1) := by decide +kernel
theorem dX11_rotasFrom_92 : decode cX11_rotasFrom 92 = .ok (.iadd, 1) := by decide +kernel
theorem dX11_rotasFrom_93 : decode cX11_rotasFrom 93 = .ok (.iload_n 2, 1) := by decide +kernel
theorem dX11_rotasFrom_94 : decode cX11_rotasFrom 94 = .ok (.iload_n 3, 1) := by decide +kernel
theorem dX11_rotasFrom_95 : decode cX11_rotasFrom 95 = .ok (.iload 4, 2) := by decide +kernel
theorem dX11_rotasFrom_97 : decode cX11_rotasFrom 97 = .ok (.invokevirtual 358, 3) := by decide +kernel
theorem dX11_rotasFrom_100 : decode cX11_rotasFrom 100 = .ok (.iinc 5 1, 3) := by decide +kernel
theorem dX11_rotasFrom_103 : decode cX11_rotasFrom 103 = .ok (.goto (-31), 3) := by decide +kernel
theorem dX11_rotasFrom_106 : decode cX11_rotasFrom 106 = .ok (.return_, 1) := by decide +kernel
theorem dX11_rotaOf_0 : decode cX11_rotaOf 0 = .ok (.aload_n 0, 1) := by decide +kernel
theorem dX11_rotaOf_1 : decode cX11_rotaOf 1 = .ok (.ldc_w 362, 3) := by decide +kernel
theorem dX11_rotaOf_4 : decode cX11_rotaOf 4 = .ok (.putfield 352, 3) := by decide +kernel
theorem dX11_rotaOf_7 : decode cX11_rotaOf 7 = .ok (.aload_n 0, 1) := by decide +kernel
theorem dX11_rotaOf_8 : decode cX11_rotaOf 8 = .ok (.iconst 0, 1) := by decide +kernel
theorem dX11_rotaOf_9 : decode cX11_rotaOf 9 = .ok (.iload_n 1, 1) := by decide +kernel
theorem dX11_rotaOf_10 : decode cX11_rotaOf 10 = .ok (.iload_n 2, 1) := by decide +kernel
theorem dX11_rotaOf_11 : decode cX11_rotaOf 11 = .ok (.iload_n 3, 1) := by decide +kernel
theorem dX11_rotaOf_12 : decode cX11_rotaOf 12 = .ok (.invokevirtual 358, 3) := by decide +kernel
theorem dX11_rotaOf_15 : decode cX11_rotaOf 15 = .ok (.aload_n 0, 1) := by decide +kernel
theorem dX11_rotaOf_16 : decode cX11_rotaOf 16 = .ok (.getfield 352, 3) := by decide +kernel
theorem dX11_rotaOf_19 : decode cX11_rotaOf 19 = .ok (.ldc_w 362, 3) := by decide +kernel
theorem dX11_rotaOf_22 : decode cX11_rotaOf 22 = .ok (.if_icmp .ne 6, 3) := by decide +kernel
theorem dX11_rotaOf_25 : decode cX11_rotaOf 25 = .ok (.bipush (-2), 2) := by decide +kernel
theorem dX11_rotaOf_27 : decode cX11_rotaOf 27 = .ok (.ireturn, 1) := by decide +kernel
theorem dX11_rotaOf_28 : decode cX11_rotaOf 28 = .ok (.aload_n 0, 1) := by decide +kernel
theorem dX11_rotaOf_29 : decode cX11_rotaOf 29 = .ok (.iconst 0, 1) := by decide +kernel
theorem dX11_rotaOf_30 : decode cX11_rotaOf 30 = .ok (.putfield 110, 3) := by decide +kernel
theorem dX11_rotaOf_33 : decode cX11_rotaOf 33 = .ok (.iconst 0, 1) := by decide +kernel
theorem dX11_rotaOf_34 : decode cX11_rotaOf 34 = .ok (.istore 4, 2) := by decide +kernel
theorem dX11_rotaOf_36 : decode cX11_rotaOf 36 = .ok (.iload 4, 2) := by decide +kernel
theorem dX11_rotaOf_38 : decode cX11_rotaOf 38 = .ok (.iload_n 1, 1) := by decide +kernel
theorem dX11_rotaOf_39 : decode cX11_rotaOf 39 = .ok (.if_icmp .ge 21, 3) := by decide +kernel
theorem dX11_rotaOf_42 : decode cX11_rotaOf 42 = .ok (.aload_n 0, 1) := by decide +kernel
theorem dX11_rotaOf_43 : decode cX11_rotaOf 43 = .ok (.aload_n 0, 1) := by decide +kernel
theorem dX11_rotaOf_44 : decode cX11_rotaOf 44 = .ok (.getfield 68, 3) := by decide +kernel
theorem dX11_rotaOf_47 : decode cX11_rotaOf 47 = .ok (.iload 4, 2) := by decide +kernel
theorem dX11_rotaOf_49 : decode cX11_rotaOf 49 = .ok (.iaload, 1) := by decide +kernel
theorem dX11_rotaOf_50 : decode cX11_rotaOf 50 = .ok (.i2l, 1) := by decide +kernel
theorem dX11_rotaOf_51 : decode cX11_rotaOf 51 = .ok (.invokevirtual 316, 3) := by decide +kernel
theorem dX11_rotaOf_54 : decode cX11_rotaOf 54 = .ok (.iinc 4 1, 3) := by decide +kernel
theorem dX11_rotaOf_57 : decode cX11_rotaOf 57 = .ok (.goto (-21), 3) := by decide +kernel
theorem dX11_rotaOf_60 : decode cX11_rotaOf 60 = .ok (.aload_n 0, 1) := by decide +kernel
theorem dX11_rotaOf_61 : decode cX11_rotaOf 61 = .ok (.getfield 352, 3) := by decide +kernel
theorem dX11_rotaOf_64 : decode cX11_rotaOf 64 = .ok (.ireturn, 1) := by decide +kernel
theorem dX11_canRota_0 : decode cX11_canRota 0 = .ok (.iload_n 0, 1) := by decide +kernel
theorem dX11_canRota_1 : decode cX11_canRota 1 = .ok (.i2l, 1) := by decide +kernel
theorem dX11_canRota_2 : decode cX11_canRota 2 = .ok (.lconst 1, 1) := by decide +kernel
theorem dX11_canRota_3 : decode cX11_canRota 3 = .ok (.ldc2_w 263, 3) := by decide +kernel
theorem dX11_canRota_6 : decode cX11_canRota 6 = .ok (.invokestatic 116, 3) := by decide +kernel
theorem dX11_canRota_9 : decode cX11_canRota 9 = .ok (.ifCond .eq 19, 3) := by decide +kernel
theorem dX11_canRota_12 : decode cX11_canRota 12 = .ok (.iload_n 1, 1) := by decide +kernel
theorem dX11_canRota_13 : decode cX11_canRota 13 = .ok (.i2l, 1) := by decide +kernel
theorem dX11_canRota_14 : decode cX11_canRota 14 = .ok (.lconst 1, 1) := by decide +kernel
theorem dX11_canRota_15 : decode cX11_canRota 15 = .ok (.ldc2_w 363, 3) := by decide +kernel
theorem dX11_canRota_18 : decode cX11_canRota 18 = .ok (.invokestatic 116, 3) := by decide +kernel
theorem dX11_canRota_21 : decode cX11_canRota 21 = .ok (.ifCond .eq 7, 3) := by decide +kernel
theorem dX11_canRota_24 : decode cX11_canRota 24 = .ok (.iconst 1, 1) := by decide +kernel
theorem dX11_canRota_25 : decode cX11_canRota 25 = .ok (.goto 4, 3) := by decide +kernel
theorem dX11_canRota_28 : decode cX11_canRota 28 = .ok (.iconst 0, 1) := by decide +kernel
theorem dX11_canRota_29 : decode cX11_canRota 29 = .ok (.ireturn, 1) := by decide +kernel
theorem dX11_rota_0 : decode cX11_rota 0 = .ok (.aload_n 0, 1) := by decide +kernel
theorem dX11_rota_1 : decode cX11_rota 1 = .ok (.iconst 0, 1) := by decide +kernel
theorem dX11_rota_2 : decode cX11_rota 2 = .ok (.putfield 102, 3) := by decide +kernel
theorem dX11_rota_5 : decode cX11_rota 5 = .ok (.iload_n 1, 1) := by decide +kernel
theorem dX11_rota_6 : decode cX11_rota 6 = .ok (.iload_n 2, 1) := by decide +kernel
theorem dX11_rota_7 : decode cX11_rota 7 = .ok (.invokestatic 365, 3) := by decide +kernel
theorem dX11_rota_10 : decode cX11_rota 10 = .ok (.ifCond .eq 13, 3) := by decide +kernel
theorem dX11_rota_13 : decode cX11_rota 13 = .ok (.aload_n 0, 1) := by decide +kernel
theorem dX11_rota_14 : decode cX11_rota 14 = .ok (.iload_n 1, 1) := by decide +kernel
theorem dX11_rota_15 : decode cX11_rota 15 = .ok (.iload_n 2, 1) := by decide +kernel
theorem dX11_rota_16 : decode cX11_rota 16 = .ok (.iconst 0, 1) := by decide +kernel
theorem dX11_rota_17 : decode cX11_rota 17 = .ok (.invokevirtual 368, 3) := by decide +kernel
theorem dX11_rota_20 : decode cX11_rota 20 = .ok (.goto 4, 3) := by decide +kernel
theorem dX11_rota_23 : decode cX11_rota 23 = .ok (.iconst (-1), 1) := by decide +kernel
theorem dX11_rota_24 : decode cX11_rota 24 = .ok (.ireturn, 1) := by decide +kernel
theorem dX11_cheapest_0 : decode cX11_cheapest 0 = .ok (.aload_n 0, 1) := by decide +kernel
theorem dX11_cheapest_1 : decode cX11_cheapest 1 = .ok (.iconst 0, 1) := by decide +kernel
theorem dX11_cheapest_2 : decode cX11_cheapest 2 = .ok (.putfield 102, 3) := by decide +kernel
theorem dX11_cheapest_5 : decode cX11_cheapest 5 = .ok (.iload_n 1, 1) := by decide +kernel
theorem dX11_cheapest_6 : decode cX11_cheapest 6 = .ok (.iload_n 2, 1) := by decide +kernel
theorem dX11_cheapest_7 : decode cX11_cheapest 7 = .ok (.invokestatic 365, 3) := by decide +kernel
theorem dX11_cheapest_10 : decode cX11_cheapest 10 = .ok (.ifCond .eq 13, 3) := by decide +kernel
theorem dX11_cheapest_13 : decode cX11_cheapest 13 = .ok (.aload_n 0, 1) := by decide +kernel
theorem dX11_cheapest_14 : decode cX11_cheapest 14 = .ok (.iload_n 1, 1) := by decide +kernel
theorem dX11_cheapest_15 : decode cX11_cheapest 15 = .ok (.iload_n 2, 1) := by decide +kernel
theorem dX11_cheapest_16 : decode cX11_cheapest 16 = .ok (.iconst 1, 1) := by decide +kernel
theorem dX11_cheapest_17 : decode cX11_cheapest 17 = .ok (.invokevirtual 368, 3) := by decide +kernel
theorem dX11_cheapest_20 : decode cX11_cheapest 20 = .ok (.goto 4, 3) := by decide +kernel
theorem dX11_cheapest_23 : decode cX11_cheapest 23 = .ok (.iconst (-1), 1) := by decide +kernel
theorem dX11_cheapest_24 : decode cX11_cheapest 24 = .ok (.ireturn, 1) := by decide +kernel
theorem dX11_anyFrom_0 : decode cX11_anyFrom 0 = .ok (.iload_n 1, 1) := by decide +kernel
theorem dX11_anyFrom_1 : decode cX11_anyFrom 1 = .ok (.iload_n 2, 1) := by decide +kernel
theorem dX11_anyFrom_2 : decode cX11_anyFrom 2 = .ok (.if_icmp .ne 10, 3) := by decide +kernel
theorem dX11_anyFrom_5 : decode cX11_anyFrom 5 = .ok (.aload_n 0, 1) := by decide +kernel
theorem dX11_anyFrom_6 : decode cX11_anyFrom 6 = .ok (.iload_n 2, 1) := by decide +kernel
theorem dX11_anyFrom_7 : decode cX11_anyFrom 7 = .ok (.iload_n 3, 1) := by decide +kernel
theorem dX11_anyFrom_8 : decode cX11_anyFrom 8 = .ok (.invokevirtual 355, 3) := by decide +kernel
theorem dX11_anyFrom_11 : decode cX11_anyFrom 11 = .ok (.ireturn, 1) := by decide +kernel
theorem dX11_anyFrom_12 : decode cX11_anyFrom 12 = .ok (.iconst 0, 1) := by decide +kernel
theorem dX11_anyFrom_13 : decode cX11_anyFrom 13 = .ok (.istore 4, 2) := by decide +kernel
theorem dX11_anyFrom_15 : decode cX11_anyFrom 15 = .ok (.iload 4, 2) := by decide +kernel
theorem dX11_anyFrom_17 : decode cX11_anyFrom 17 = .ok (.aload_n 0, 1) := by decide +kernel
theorem dX11_anyFrom_18 : decode cX11_anyFrom 18 = .ok (.getfield 113, 3) := by decide +kernel
theorem dX11_anyFrom_21 : decode cX11_anyFrom 21 = .ok (.if_icmp .ge 31, 3) := by decide +kernel
theorem dX11_anyFrom_24 : decode cX11_anyFrom 24 = .ok (.aload_n 0, 1) := by decide +kernel
theorem dX11_anyFrom_25 : decode cX11_anyFrom 25 = .ok (.getfield 65, 3) := by decide +kernel
theorem dX11_anyFrom_28 : decode cX11_anyFrom 28 = .ok (.iload_n 1, 1) := by decide +kernel
theorem dX11_anyFrom_29 : decode cX11_anyFrom 29 = .ok (.iload 4, 2) := by decide +kernel
theorem dX11_anyFrom_31 : decode cX11_anyFrom 31 = .ok (.iastore, 1) := by decide +kernel
theorem dX11_anyFrom_32 : decode cX11_anyFrom 32 = .ok (.aload_n 0, 1) := by decide +kernel
theorem dX11_anyFrom_33 : decode cX11_anyFrom 33 = .ok (.iload_n 1, 1) := by decide +kernel
theorem dX11_anyFrom_34 : decode cX11_anyFrom 34 = .ok (.iconst 1, 1) := by decide +kernel
theorem dX11_anyFrom_35 : decode cX11_anyFrom 35 = .ok (.iadd, 1) := by decide +kernel
theorem dX11_anyFrom_36 : decode cX11_anyFrom 36 = .ok (.iload_n 2, 1) := by decide +kernel
theorem dX11_anyFrom_37 : decode cX11_anyFrom 37 = .ok (.iload_n 3, 1) := by decide +kernel
theorem dX11_anyFrom_38 : decode cX11_anyFrom 38 = .ok (.invokevirtual 371, 3) := by decide +kernel
theorem dX11_anyFrom_41 : decode cX11_anyFrom 41 = .ok (.ifCond .eq 5, 3) := by decide +kernel
theorem dX11_anyFrom_44 : decode cX11_anyFrom 44 = .ok (.iconst 1, 1) := by decide +kernel
theorem dX11_anyFrom_45 : decode cX11_anyFrom 45 = .ok (.ireturn, 1) := by decide +kernel
theorem dX11_anyFrom_46 : decode cX11_anyFrom 46 = .ok (.iinc 4 1, 3) := by decide +kernel
theorem dX11_anyFrom_49 : decode cX11_anyFrom 49 = .ok (.goto (-34), 3) := by decide +kernel
theorem dX11_anyFrom_52 : decode cX11_anyFrom 52 = .ok (.iconst 0, 1) := by decide +kernel
theorem dX11_anyFrom_53 : decode cX11_anyFrom 53 = .ok (.ireturn, 1) := by decide +kernel
theorem dX11_longest_0 : decode cX11_longest 0 = .ok (.aload_n 0, 1) := by decide +kernel
theorem dX11_longest_1 : decode cX11_longest 1 = .ok (.iconst 0, 1) := by decide +kernel
theorem dX11_longest_2 : decode cX11_longest 2 = .ok (.putfield 102, 3) := by decide +kernel
theorem dX11_longest_5 : decode cX11_longest 5 = .ok (.iload_n 1, 1) := by decide +kernel
theorem dX11_longest_6 : decode cX11_longest 6 = .ok (.i2l, 1) := by decide +kernel
theorem dX11_longest_7 : decode cX11_longest 7 = .ok (.lconst 1, 1) := by decide +kernel
theorem dX11_longest_8 : decode cX11_longest 8 = .ok (.ldc2_w 278, 3) := by decide +kernel
theorem dX11_longest_11 : decode cX11_longest 11 = .ok (.invokestatic 116, 3) := by decide +kernel
theorem dX11_longest_14 : decode cX11_longest 14 = .ok (.ifCond .ne 5, 3) := by decide +kernel
theorem dX11_longest_17 : decode cX11_longest 17 = .ok (.iconst (-1), 1) := by decide +kernel
theorem dX11_longest_18 : decode cX11_longest 18 = .ok (.ireturn, 1) := by decide +kernel
theorem dX11_longest_19 : decode cX11_longest 19 = .ok (.bipush 20, 2) := by decide +kernel
theorem dX11_longest_21 : decode cX11_longest 21 = .ok (.istore_n 2, 1) := by decide +kernel
theorem dX11_longest_22 : decode cX11_longest 22 = .ok (.iload_n 2, 1) := by decide +kernel
theorem dX11_longest_23 : decode cX11_longest 23 = .ok (.iconst 1, 1) := by decide +kernel
theorem dX11_longest_24 : decode cX11_longest 24 = .ok (.if_icmp .lt 50, 3) := by decide +kernel
theorem dX11_longest_27 : decode cX11_longest 27 = .ok (.aload_n 0, 1) := by decide +kernel
theorem dX11_longest_28 : decode cX11_longest 28 = .ok (.iconst 0, 1) := by decide +kernel
theorem dX11_longest_29 : decode cX11_longest 29 = .ok (.iload_n 1, 1) := by decide +kernel
theorem dX11_longest_30 : decode cX11_longest 30 = .ok (.iload_n 2, 1) := by decide +kernel
theorem dX11_longest_31 : decode cX11_longest 31 = .ok (.invokevirtual 371, 3) := by decide +kernel
theorem dX11_longest_34 : decode cX11_longest 34 = .ok (.ifCond .eq 34, 3) := by decide +kernel
theorem dX11_longest_37 : decode cX11_longest 37 = .ok (.aload_n 0, 1) := by decide +kernel
theorem dX11_longest_38 : decode cX11_longest 38 = .ok (.iconst 0, 1) := by decide +kernel
theorem dX11_longest_39 : decode cX11_longest 39 = .ok (.putfield 110, 3) := by decide +kernel
theorem dX11_longest_42 : decode cX11_longest 42 = .ok (.iconst 0, 1) := by decide +kernel
theorem dX11_longest_43 : decode cX11_longest 43 = .ok (.istore_n 3, 1) := by decide +kernel
theorem dX11_longest_44 : decode cX11_longest 44 = .ok (.iload_n 3, 1) := by decide +kernel
theorem dX11_longest_45 : decode cX11_longest 45 = .ok (.iload_n 1, 1) := by decide +kernel
theorem dX11_longest_46 : decode cX11_longest 46 = .ok (.if_icmp .ge 20, 3) := by decide +kernel
theorem dX11_longest_49 : decode cX11_longest 49 = .ok (.aload_n 0, 1) := by decide +kernel
theorem dX11_longest_50 : decode cX11_longest 50 = .ok (.aload_n 0, 1) := by decide +kernel
theorem dX11_longest_51 : decode cX11_longest 51 = .ok (.getfield 65, 3) := by decide +kernel
theorem dX11_longest_54 : decode cX11_longest 54 = .ok (.iload_n 3, 1) := by decide +kernel
theorem dX11_longest_55 : decode cX11_longest 55 = .ok (.iaload, 1) := by decide +kernel
theorem dX11_longest_56 : decode cX11_longest 56 = .ok (.i2l, 1) := by decide +kernel
theorem dX11_longest_57 : decode cX11_longest 57 = .ok (.invokevirtual 316, 3) := by decide +kernel
theorem dX11_longest_60 : decode cX11_longest 60 = .ok (.iinc 3 1, 3) := by decide +kernel
theorem dX11_longest_63 : decode cX11_longest 63 = .ok (.goto (-19), 3) := by decide +kernel
theorem dX11_longest_66 : decode cX11_longest 66 = .ok (.iload_n 2, 1) := by decide +kernel
theorem dX11_longest_67 : decode cX11_longest 67 = .ok (.ireturn, 1) := by decide +kernel
theorem dX11_longest_68 : decode cX11_longest 68 = .ok (.iinc 2 (-1), 3) := by decide +kernel
theorem dX11_longest_71 : decode cX11_longest 71 = .ok (.goto (-49), 3) := by decide +kernel
theorem dX11_longest_74 : decode cX11_longest 74 = .ok (.bipush (-2), 2) := by decide +kernel
theorem dX11_longest_76 : decode cX11_longest 76 = .ok (.ireturn, 1) := by decide +kernel
theorem dX11_change_0 : decode cX11_change 0 = .ok (.aload_n 0, 1) := by decide +kernel
theorem dX11_change_1 : decode cX11_change 1 = .ok (.iconst 0, 1) := by decide +kernel
theorem dX11_change_2 : decode cX11_change 2 = .ok (.putfield 102, 3) := by decide +kernel
theorem dX11_change_5 : decode cX11_change 5 = .ok (.iload_n 1, 1) := by decide +kernel
theorem dX11_change_6 : decode cX11_change 6 = .ok (.i2l, 1) := by decide +kernel
theorem dX11_change_7 : decode cX11_change 7 = .ok (.lconst 0, 1) := by decide +kernel
theorem dX11_change_8 : decode cX11_change 8 = .ok (.ldc2_w 274, 3) := by decide +kernel
theorem dX11_change_11 : decode cX11_change 11 = .ok (.invokestatic 116, 3) := by decide +kernel
theorem dX11_change_14 : decode cX11_change 14 = .ok (.ifCond .ne 5, 3) := by decide +kernel
theorem dX11_change_17 : decode cX11_change 17 = .ok (.iconst (-1), 1) := by decide +kernel
theorem dX11_change_18 : decode cX11_change 18 = .ok (.ireturn, 1) := by decide +kernel
theorem dX11_change_19 : decode cX11_change 19 = .ok (.iconst 0, 1) := by decide +kernel
theorem dX11_change_20 : decode cX11_change 20 = .ok (.istore_n 2, 1) := by decide +kernel
theorem dX11_change_21 : decode cX11_change 21 = .ok (.iload_n 2, 1) := by decide +kernel
theorem dX11_change_22 : decode cX11_change 22 = .ok (.bipush 16, 2) := by decide +kernel
theorem dX11_change_24 : decode cX11_change 24 = .ok (.if_icmp .ge 21, 3) := by decide +kernel
theorem dX11_change_27 : decode cX11_change 27 = .ok (.aload_n 0, 1) := by decide +kernel
theorem dX11_change_28 : decode cX11_change 28 = .ok (.getfield 71, 3) := by decide +kernel
theorem dX11_change_31 : decode cX11_change 31 = .ok (.iload_n 2, 1) := by decide +kernel
theorem dX11_change_32 : decode cX11_change 32 = .ok (.aload_n 0, 1) := by decide +kernel
theorem dX11_change_33 : decode cX11_change 33 = .ok (.getfield 29, 3) := by decide +kernel
theorem dX11_change_36 : decode cX11_change 36 = .ok (.iload_n 2, 1) := by decide +kernel
theorem dX11_change_37 : decode cX11_change 37 = .ok (.iaload, 1) := by decide +kernel
theorem dX11_change_38 : decode cX11_change 38 = .ok (.iastore, 1) := by decide +kernel
theorem dX11_change_39 : decode cX11_change 39 = .ok (.iinc 2 1, 3) := by decide +kernel
theorem dX11_change_42 : decode cX11_change 42 = .ok (.goto (-21), 3) := by decide +kernel
theorem dX11_change_45 : decode cX11_change 45 = .ok (.iconst 0, 1) := by decide +kernel
theorem dX11_change_46 : decode cX11_change 46 = .ok (.istore_n 2, 1) := by decide +kernel
theorem dX11_change_47 : decode cX11_change 47 = .ok (.iload_n 2, 1) := by decide +kernel
theorem dX11_change_48 : decode cX11_change 48 = .ok (.sipush 999, 3) := by decide +kernel
theorem dX11_change_51 : decode cX11_change 51 = .ok (.if_icmp .gt 81, 3) := by decide +kernel
theorem dX11_change_54 : decode cX11_change 54 = .ok (.iconst 0, 1) := by decide +kernel
theorem dX11_change_55 : decode cX11_change 55 = .ok (.istore_n 3, 1) := by decide +kernel
theorem dX11_change_56 : decode cX11_change 56 = .ok (.iload_n 3, 1) := by decide +kernel
theorem dX11_change_57 : decode cX11_change 57 = .ok (.bipush 16, 2) := by decide +kernel
theorem dX11_change_59 : decode cX11_change 59 = .ok (.if_icmp .ge 21, 3) := by decide +kernel
theorem dX11_change_62 : decode cX11_change 62 = .ok (.aload_n 0, 1) := by decide +kernel
theorem dX11_change_63 : decode cX11_change 63 = .ok (.getfield 32, 3) := by decide +kernel
theorem dX11_change_66 : decode cX11_change 66 = .ok (.iload_n 3, 1) := by decide +kernel
theorem dX11_change_67 : decode cX11_change 67 = .ok (.aload_n 0, 1) := by decide +kernel
theorem dX11_change_68 : decode cX11_change 68 = .ok (.getfield 71, 3) := by decide +kernel
theorem dX11_change_71 : decode cX11_change 71 = .ok (.iload_n 3, 1) := by decide +kernel
theorem dX11_change_72 : decode cX11_change 72 = .ok (.iaload, 1) := by decide +kernel
theorem dX11_change_73 : decode cX11_change 73 = .ok (.iastore, 1) := by decide +kernel
theorem dX11_change_74 : decode cX11_change 74 = .ok (.iinc 3 1, 3) := by decide +kernel
theorem dX11_change_77 : decode cX11_change 77 = .ok (.goto (-21), 3) := by decide +kernel
theorem dX11_change_80 : decode cX11_change 80 = .ok (.aload_n 0, 1) := by decide +kernel
theorem dX11_change_81 : decode cX11_change 81 = .ok (.getfield 32, 3) := by decide +kernel
theorem dX11_change_84 : decode cX11_change 84 = .ok (.bipush 8, 2) := by decide +kernel
theorem dX11_change_86 : decode cX11_change 86 = .ok (.iconst 0, 1) := by decide +kernel
theorem dX11_change_87 : decode cX11_change 87 = .ok (.iastore, 1) := by decide +kernel
theorem dX11_change_88 : decode cX11_change 88 = .ok (.aload_n 0, 1) := by decide +kernel
theorem dX11_change_89 : decode cX11_change 89 = .ok (.aload_n 0, 1) := by decide +kernel
theorem dX11_change_90 : decode cX11_change 90 = .ok (.getfield 32, 3) := by decide +kernel
theorem dX11_change_93 : decode cX11_change 93 = .ok (.iload_n 1, 1) := by decide +kernel
theorem dX11_change_94 : decode cX11_change 94 = .ok (.invokevirtual 313, 3) := by decide +kernel
theorem dX11_change_97 : decode cX11_change 97 = .ok (.pop, 1) := by decide +kernel
theorem dX11_change_98 : decode cX11_change 98 = .ok (.aload_n 0, 1) := by decide +kernel
theorem dX11_change_99 : decode cX11_change 99 = .ok (.getfield 32, 3) := by decide +kernel
theorem dX11_change_102 : decode cX11_change 102 = .ok (.bipush 13, 2) := by decide +kernel
theorem dX11_change_104 : decode cX11_change 104 = .ok (.iaload, 1) := by decide +kernel
theorem dX11_change_105 : decode cX11_change 105 = .ok (.aload_n 0, 1) := by decide +kernel
theorem dX11_change_106 : decode cX11_change 106 = .ok (.getfield 71, 3) := by decide +kernel
theorem dX11_change_109 : decode cX11_change 109 = .ok (.bipush 13, 2) := by decide +kernel
theorem dX11_change_111 : decode cX11_change 111 = .ok (.iaload, 1) := by decide +kernel
theorem dX11_change_112 : decode cX11_change 112 = .ok (.if_icmp .ne 5, 3) := by decide +kernel
theorem dX11_change_115 : decode cX11_change 115 = .ok (.iload_n 2, 1) := by decide +kernel
theorem dX11_change_116 : decode cX11_change 116 = .ok (.ireturn, 1) := by decide +kernel
theorem dX11_change_117 : decode cX11_change 117 = .ok (.aload_n 0, 1) := by decide +kernel
theorem dX11_change_118 : decode cX11_change 118 = .ok (.aload_n 0, 1) := by decide +kernel
theorem dX11_change_119 : decode cX11_change 119 = .ok (.getfield 71, 3) := by decide +kernel
theorem dX11_change_122 : decode cX11_change 122 = .ok (.invokevirtual 307, 3) := by decide +kernel
theorem dX11_change_125 : decode cX11_change 125 = .ok (.pop, 1) := by decide +kernel
theorem dX11_change_126 : decode cX11_change 126 = .ok (.iinc 2 1, 3) := by decide +kernel
theorem dX11_change_129 : decode cX11_change 129 = .ok (.goto (-82), 3) := by decide +kernel
theorem dX11_change_132 : decode cX11_change 132 = .ok (.bipush (-2), 2) := by decide +kernel
theorem dX11_change_134 : decode cX11_change 134 = .ok (.ireturn, 1) := by decide +kernel
theorem dX11_allPeople_0 : decode cX11_allPeople 0 = .ok (.iconst 1, 1) := by decide +kernel
theorem dX11_allPeople_1 : decode cX11_allPeople 1 = .ok (.aload_n 0, 1) := by decide +kernel
theorem dX11_allPeople_2 : decode cX11_allPeople 2 = .ok (.getfield 202, 3) := by decide +kernel
theorem dX11_allPeople_5 : decode cX11_allPeople 5 = .ok (.ishl, 1) := by decide +kernel
theorem dX11_allPeople_6 : decode cX11_allPeople 6 = .ok (.iconst 1, 1) := by decide +kernel
theorem dX11_allPeople_7 : decode cX11_allPeople 7 = .ok (.isub, 1) := by decide +kernel
theorem dX11_allPeople_8 : decode cX11_allPeople 8 = .ok (.ireturn, 1) := by decide +kernel
theorem dX11_spreads_0 : decode cX11_spreads 0 = .ok (.iload_n 1, 1) := by decide +kernel
theorem dX11_spreads_1 : decode cX11_spreads 1 = .ok (.istore_n 2, 1) := by decide +kernel
theorem dX11_spreads_2 : decode cX11_spreads 2 = .ok (.iconst 0, 1) := by decide +kernel
theorem dX11_spreads_3 : decode cX11_spreads 3 = .ok (.istore_n 3, 1) := by decide +kernel
theorem dX11_spreads_4 : decode cX11_spreads 4 = .ok (.iload_n 3, 1) := by decide +kernel
theorem dX11_spreads_5 : decode cX11_spreads 5 = .ok (.aload_n 0, 1) := by decide +kernel
theorem dX11_spreads_6 : decode cX11_spreads 6 = .ok (.getfield 202, 3) := by decide +kernel
theorem dX11_spreads_9 : decode cX11_spreads 9 = .ok (.if_icmp .ge 81, 3) := by decide +kernel
theorem dX11_spreads_12 : decode cX11_spreads 12 = .ok (.iconst 0, 1) := by decide +kernel
theorem dX11_spreads_13 : decode cX11_spreads 13 = .ok (.istore 4, 2) := by decide +kernel
theorem dX11_spreads_15 : decode cX11_spreads 15 = .ok (.iload 4, 2) := by decide +kernel
theorem dX11_spreads_17 : decode cX11_spreads 17 = .ok (.aload_n 0, 1) := by decide +kernel
theorem dX11_spreads_18 : decode cX11_spreads 18 = .ok (.getfield 202, 3) := by decide +kernel
theorem dX11_spreads_21 : decode cX11_spreads 21 = .ok (.if_icmp .ge 63, 3) := by decide +kernel
theorem dX11_spreads_24 : decode cX11_spreads 24 = .ok (.aload_n 0, 1) := by decide +kernel
theorem dX11_spreads_25 : decode cX11_spreads 25 = .ok (.getfield 23, 3) := by decide +kernel
theorem dX11_spreads_28 : decode cX11_spreads 28 = .ok (.iload 4, 2) := by decide +kernel
theorem dX11_spreads_30 : decode cX11_spreads 30 = .ok (.iaload, 1) := by decide +kernel
theorem dX11_spreads_31 : decode cX11_spreads 31 = .ok (.ifCond .le 28, 3) := by decide +kernel
theorem dX11_spreads_34 : decode cX11_spreads 34 = .ok (.iload_n 2, 1) := by decide +kernel
theorem dX11_spreads_35 : decode cX11_spreads 35 = .ok (.iconst 1, 1) := by decide +kernel
theorem dX11_spreads_36 : decode cX11_spreads 36 = .ok (.iload 4, 2) := by decide +kernel
theorem dX11_spreads_38 : decode cX11_spreads 38 = .ok (.ishl, 1) := by decide +kernel
theorem dX11_spreads_39 : decode cX11_spreads 39 = .ok (.iconst (-1), 1) := by decide +kernel
theorem dX11_spreads_40 : decode cX11_spreads 40 = .ok (.ixor, 1) := by decide +kernel
theorem dX11_spreads_41 : decode cX11_spreads 41 = .ok (.iand, 1) := by decide +kernel
theorem dX11_spreads_42 : decode cX11_spreads 42 = .ok (.invokestatic 248, 3) := by decide +kernel
theorem dX11_spreads_45 : decode cX11_spreads 45 = .ok (.aload_n 0, 1) := by decide +kernel
theorem dX11_spreads_46 : decode cX11_spreads 46 = .ok (.getfield 23, 3) := by decide +kernel
theorem dX11_spreads_49 : decode cX11_spreads 49 = .ok (.iload 4, 2) := by decide +kernel
theorem dX11_spreads_51 : decode cX11_spreads 51 = .ok (.iaload, 1) := by decide +kernel
theorem dX11_spreads_52 : decode cX11_spreads 52 = .ok (.if_icmp .lt 7, 3) := by decide +kernel
theorem dX11_spreads_55 : decode cX11_spreads 55 = .ok (.iconst 1, 1) := by decide +kernel
theorem dX11_spreads_56 : decode cX11_spreads 56 = .ok (.goto 4, 3) := by decide +kernel
theorem dX11_spreads_59 : decode cX11_spreads 59 = .ok (.iconst 0, 1) := by decide +kernel
theorem dX11_spreads_60 : decode cX11_spreads 60 = .ok (.istore 5, 2) := by decide +kernel
theorem dX11_spreads_62 : decode cX11_spreads 62 = .ok (.iload_n 2, 1) := by decide +kernel
theorem dX11_spreads_63 : decode cX11_spreads 63 = .ok (.iload 5, 2) := by decide +kernel
theorem dX11_spreads_65 : decode cX11_spreads 65 = .ok (.ifCond .eq 10, 3) := by decide +kernel
theorem dX11_spreads_68 : decode cX11_spreads 68 = .ok (.iconst 1, 1) := by decide +kernel
theorem dX11_spreads_69 : decode cX11_spreads 69 = .ok (.iload 4, 2) := by decide +kernel
theorem dX11_spreads_71 : decode cX11_spreads 71 = .ok (.ishl, 1) := by decide +kernel
theorem dX11_spreads_72 : decode cX11_spreads 72 = .ok (.goto 4, 3) := by decide +kernel
theorem dX11_spreads_75 : decode cX11_spreads 75 = .ok (.iconst 0, 1) := by decide +kernel
theorem dX11_spreads_76 : decode cX11_spreads 76 = .ok (.ior, 1) := by decide +kernel
theorem dX11_spreads_77 : decode cX11_spreads 77 = .ok (.istore_n 2, 1) := by decide +kernel
theorem dX11_spreads_78 : decode cX11_spreads 78 = .ok (.iinc 4 1, 3) := by decide +kernel
theorem dX11_spreads_81 : decode cX11_spreads 81 = .ok (.goto (-66), 3) := by decide +kernel
theorem dX11_spreads_84 : decode cX11_spreads 84 = .ok (.iinc 3 1, 3) := by decide +kernel
theorem dX11_spreads_87 : decode cX11_spreads 87 = .ok (.goto (-83), 3) := by decide +kernel
theorem dX11_spreads_90 : decode cX11_spreads 90 = .ok (.iload_n 2, 1) := by decide +kernel
theorem dX11_spreads_91 : decode cX11_spreads 91 = .ok (.ireturn, 1) := by decide +kernel
theorem dX11_hearing_0 : decode cX11_hearing 0 = .ok (.iconst 0, 1) := by decide +kernel
theorem dX11_hearing_1 : decode cX11_hearing 1 = .ok (.istore_n 2, 1) := by decide +kernel
theorem dX11_hearing_2 : decode cX11_hearing 2 = .ok (.iconst 0, 1) := by decide +kernel
theorem dX11_hearing_3 : decode cX11_hearing 3 = .ok (.istore_n 3, 1) := by decide +kernel
theorem dX11_hearing_4 : decode cX11_hearing 4 = .ok (.iload_n 3, 1) := by decide +kernel
theorem dX11_hearing_5 : decode cX11_hearing 5 = .ok (.aload_n 0, 1) := by decide +kernel
theorem dX11_hearing_6 : decode cX11_hearing 6 = .ok (.getfield 202, 3) := by decide +kernel
theorem dX11_hearing_9 : decode cX11_hearing 9 = .ok (.if_icmp .ge 29, 3) := by decide +kernel
theorem dX11_hearing_12 : decode cX11_hearing 12 = .ok (.iload_n 2, 1) := by decide +kernel
theorem dX11_hearing_13 : decode cX11_hearing 13 = .ok (.aload_n 0, 1) := by decide +kernel
theorem dX11_hearing_14 : decode cX11_hearing 14 = .ok (.getfield 20, 3) := by decide +kernel
theorem dX11_hearing_17 : decode cX11_hearing 17 = .ok (.iload_n 3, 1) := by decide +kernel
theorem dX11_hearing_18 : decode cX11_hearing 18 = .ok (.iaload, 1) := by decide +kernel
theorem dX11_hearing_19 : decode cX11_hearing 19 = .ok (.iload_n 1, 1) := by decide +kernel
theorem dX11_hearing_20 : decode cX11_hearing 20 = .ok (.if_icmp .gt 9, 3) := by decide +kernel
theorem dX11_hearing_23 : decode cX11_hearing 23 = .ok (.iconst 1, 1) := by decide +kernel
theorem dX11_hearing_24 : decode cX11_hearing 24 = .ok (.iload_n 3, 1) := by decide +kernel
theorem dX11_hearing_25 : decode cX11_hearing 25 = .ok (.ishl, 1) := by decide +kernel
theorem dX11_hearing_26 : decode cX11_hearing 26 = .ok (.goto 4, 3) := by decide +kernel
theorem dX11_hearing_29 : decode cX11_hearing 29 = .ok (.iconst 0, 1) := by decide +kernel
theorem dX11_hearing_30 : decode cX11_hearing 30 = .ok (.ior, 1) := by decide +kernel
theorem dX11_hearing_31 : decode cX11_hearing 31 = .ok (.istore_n 2, 1) := by decide +kernel
theorem dX11_hearing_32 : decode cX11_hearing 32 = .ok (.iinc 3 1, 3) := by decide +kernel
theorem dX11_hearing_35 : decode cX11_hearing 35 = .ok (.goto (-31), 3) := by decide +kernel
theorem dX11_hearing_38 : decode cX11_hearing 38 = .ok (.iload_n 2, 1) := by decide +kernel
theorem dX11_hearing_39 : decode cX11_hearing 39 = .ok (.ireturn, 1) := by decide +kernel
theorem dX11_doubts_0 : decode cX11_doubts 0 = .ok (.aload_n 0, 1) := by decide +kernel
theorem dX11_doubts_1 : decode cX11_doubts 1 = .ok (.iconst 0, 1) := by decide +kernel
theorem dX11_doubts_2 : decode cX11_doubts 2 = .ok (.putfield 102, 3) := by decide +kernel
theorem dX11_doubts_5 : decode cX11_doubts 5 = .ok (.iload_n 1, 1) := by decide +kernel
theorem dX11_doubts_6 : decode cX11_doubts 6 = .ok (.i2l, 1) := by decide +kernel
theorem dX11_doubts_7 : decode cX11_doubts 7 = .ok (.lconst 0, 1) := by decide +kernel
theorem dX11_doubts_8 : decode cX11_doubts 8 = .ok (.ldc2_w 276, 3) := by decide +kernel
theorem dX11_doubts_11 : decode cX11_doubts 11 = .ok (.invokestatic 116, 3) := by decide +kernel
theorem dX11_doubts_14 : decode cX11_doubts 14 = .ok (.ifCond .ne 5, 3) := by decide +kernel
theorem dX11_doubts_17 : decode cX11_doubts 17 = .ok (.iconst (-1), 1) := by decide +kernel
theorem dX11_doubts_18 : decode cX11_doubts 18 = .ok (.ireturn, 1) := by decide +kernel
theorem dX11_doubts_19 : decode cX11_doubts 19 = .ok (.aload_n 0, 1) := by decide +kernel
theorem dX11_doubts_20 : decode cX11_doubts 20 = .ok (.aload_n 0, 1) := by decide +kernel
theorem dX11_doubts_21 : decode cX11_doubts 21 = .ok (.getfield 29, 3) := by decide +kernel
theorem dX11_doubts_24 : decode cX11_doubts 24 = .ok (.bipush 15, 2) := by decide +kernel
theorem dX11_doubts_26 : decode cX11_doubts 26 = .ok (.iaload, 1) := by decide +kernel
theorem dX11_doubts_27 : decode cX11_doubts 27 = .ok (.aload_n 0, 1) := by decide +kernel
theorem dX11_doubts_28 : decode cX11_doubts 28 = .ok (.iload_n 1, 1) := by decide +kernel
theorem dX11_doubts_29 : decode cX11_doubts 29 = .ok (.invokevirtual 375, 3) := by decide +kernel
theorem dX11_doubts_32 : decode cX11_doubts 32 = .ok (.ior, 1) := by decide +kernel
theorem dX11_doubts_33 : decode cX11_doubts 33 = .ok (.invokevirtual 378, 3) := by decide +kernel
theorem dX11_doubts_36 : decode cX11_doubts 36 = .ok (.istore_n 2, 1) := by decide +kernel
theorem dX11_doubts_37 : decode cX11_doubts 37 = .ok (.aload_n 0, 1) := by decide +kernel
theorem dX11_doubts_38 : decode cX11_doubts 38 = .ok (.iconst 0, 1) := by decide +kernel
theorem dX11_doubts_39 : decode cX11_doubts 39 = .ok (.putfield 110, 3) := by decide +kernel
theorem dX11_doubts_42 : decode cX11_doubts 42 = .ok (.aload_n 0, 1) := by decide +kernel
theorem dX11_doubts_43 : decode cX11_doubts 43 = .ok (.iload_n 2, 1) := by decide +kernel
theorem dX11_doubts_44 : decode cX11_doubts 44 = .ok (.invokestatic 248, 3) := by decide +kernel
theorem dX11_doubts_47 : decode cX11_doubts 47 = .ok (.i2l, 1) := by decide +kernel
theorem dX11_doubts_48 : decode cX11_doubts 48 = .ok (.invokevirtual 316, 3) := by decide +kernel
theorem dX11_doubts_51 : decode cX11_doubts 51 = .ok (.aload_n 0, 1) := by decide +kernel
theorem dX11_doubts_52 : decode cX11_doubts 52 = .ok (.iload_n 2, 1) := by decide +kernel
theorem dX11_doubts_53 : decode cX11_doubts 53 = .ok (.aload_n 0, 1) := by decide +kernel
theorem dX11_doubts_54 : decode cX11_doubts 54 = .ok (.iload_n 1, 1) := by decide +kernel
theorem dX11_doubts_55 : decode cX11_doubts 55 = .ok (.invokevirtual 375, 3) := by decide +kernel
theorem dX11_doubts_58 : decode cX11_doubts 58 = .ok (.iand, 1) := by decide +kernel
theorem dX11_doubts_59 : decode cX11_doubts 59 = .ok (.invokestatic 248, 3) := by decide +kernel
theorem dX11_doubts_62 : decode cX11_doubts 62 = .ok (.i2l, 1) := by decide +kernel
theorem dX11_doubts_63 : decode cX11_doubts 63 = .ok (.invokevirtual 316, 3) := by decide +kernel
theorem dX11_doubts_66 : decode cX11_doubts 66 = .ok (.iload_n 2, 1) := by decide +kernel
theorem dX11_doubts_67 : decode cX11_doubts 67 = .ok (.ireturn, 1) := by decide +kernel
theorem dX11_frees_0 : decode cX11_frees 0 = .ok (.aload_n 0, 1) := by decide +kernel
theorem dX11_frees_1 : decode cX11_frees 1 = .ok (.iconst 0, 1) := by decide +kernel
theorem dX11_frees_2 : decode cX11_frees 2 = .ok (.putfield 102, 3) := by decide +kernel
theorem dX11_frees_5 : decode cX11_frees 5 = .ok (.iconst 0, 1) := by decide +kernel
theorem dX11_frees_6 : decode cX11_frees 6 = .ok (.istore_n 1, 1) := by decide +kernel
theorem dX11_frees_7 : decode cX11_frees 7 = .ok (.iload_n 1, 1) := by decide +kernel
theorem dX11_frees_8 : decode cX11_frees 8 = .ok (.bipush 9, 2) := by decide +kernel
theorem dX11_frees_10 : decode cX11_frees 10 = .ok (.if_icmp .gt 35, 3) := by decide +kernel
theorem dX11_frees_13 : decode cX11_frees 13 = .ok (.aload_n 0, 1) := by decide +kernel
theorem dX11_frees_14 : decode cX11_frees 14 = .ok (.aload_n 0, 1) := by decide +kernel
theorem dX11_frees_15 : decode cX11_frees 15 = .ok (.getfield 29, 3) := by decide +kernel
theorem dX11_frees_18 : decode cX11_frees 18 = .ok (.bipush 15, 2) := by decide +kernel
theorem dX11_frees_20 : decode cX11_frees 20 = .ok (.iaload, 1) := by decide +kernel
theorem dX11_frees_21 : decode cX11_frees 21 = .ok (.aload_n 0, 1) := by decide +kernel
theorem dX11_frees_22 : decode cX11_frees 22 = .ok (.iload_n 1, 1) := by decide +kernel
theorem dX11_frees_23 : decode cX11_frees 23 = .ok (.invokevirtual 375, 3) := by decide +kernel
theorem dX11_frees_26 : decode cX11_frees 26 = .ok (.ior, 1) := by decide +kernel
theorem dX11_frees_27 : decode cX11_frees 27 = .ok (.invokevirtual 378, 3) := by decide +kernel
theorem dX11_frees_30 : decode cX11_frees 30 = .ok (.aload_n 0, 1) := by decide +kernel
theorem dX11_frees_31 : decode cX11_frees 31 = .ok (.invokevirtual 381, 3) := by decide +kernel
theorem dX11_frees_34 : decode cX11_frees 34 = .ok (.if_icmp .ne 5, 3) := by decide +kernel
theorem dX11_frees_37 : decode cX11_frees 37 = .ok (.iload_n 1, 1) := by decide +kernel
theorem dX11_frees_38 : decode cX11_frees 38 = .ok (.ireturn, 1) := by decide +kernel
theorem dX11_frees_39 : decode cX11_frees 39 = .ok (.iinc 1 1, 3) := by decide +kernel
theorem dX11_frees_42 : decode cX11_frees 42 = .ok (.goto (-35), 3) := by decide +kernel
theorem dX11_frees_45 : decode cX11_frees 45 = .ok (.bipush (-2), 2) := by decide +kernel
theorem dX11_frees_47 : decode cX11_frees 47 = .ok (.ireturn, 1) := by decide +kernel
theorem dX11_persuade_0 : decode cX11_persuade 0 = .ok (.aload_n 0, 1) := by decide +kernel
theorem dX11_persuade_1 : decode cX11_persuade 1 = .ok (.iconst 0, 1) := by decide +kernel
theorem dX11_persuade_2 : decode cX11_persuade 2 = .ok (.putfield 102, 3) := by decide +kernel
theorem dX11_persuade_5 : decode cX11_persuade 5 = .ok (.iconst (-1), 1) := by decide +kernel
theorem dX11_persuade_6 : decode cX11_persuade 6 = .ok (.istore_n 1, 1) := by decide +kernel
theorem dX11_persuade_7 : decode cX11_persuade 7 = .ok (.iconst 0, 1) := by decide +kernel
theorem dX11_persuade_8 : decode cX11_persuade 8 = .ok (.istore_n 2, 1) := by decide +kernel
theorem dX11_persuade_9 : decode cX11_persuade 9 = .ok (.iload_n 2, 1) := by decide +kernel
theorem dX11_persuade_10 : decode cX11_persuade 10 = .ok (.aload_n 0, 1) := by decide +kernel
theorem dX11_persuade_11 : decode cX11_persuade 11 = .ok (.invokevirtual 381, 3) := by decide +kernel
theorem dX11_persuade_14 : decode cX11_persuade 14 = .ok (.if_icmp .gt 60, 3) := by decide +kernel
theorem dX11_persuade_17 : decode cX11_persuade 17 = .ok (.iload_n 1, 1) := by decide +kernel
theorem dX11_persuade_18 : decode cX11_persuade 18 = .ok (.ifCond .lt 14, 3) := by decide +kernel
theorem dX11_persuade_21 : decode cX11_persuade 21 = .ok (.iload_n 2, 1) := by decide +kernel
theorem dX11_persuade_22 : decode cX11_persuade 22 = .ok (.invokestatic 248, 3) := by decide +kernel
theorem dX11_persuade_25 : decode cX11_persuade 25 = .ok (.iload_n 1, 1) := by decide +kernel
theorem dX11_persuade_26 : decode cX11_persuade 26 = .ok (.invokestatic 248, 3) := by decide +kernel
theorem dX11_persuade_29 : decode cX11_persuade 29 = .ok (.if_icmp .ge 7, 3) := by decide +kernel
theorem dX11_persuade_32 : decode cX11_persuade 32 = .ok (.iconst 1, 1) := by decide +kernel
theorem dX11_persuade_33 : decode cX11_persuade 33 = .ok (.goto 4, 3) := by decide +kernel
theorem dX11_persuade_36 : decode cX11_persuade 36 = .ok (.iconst 0, 1) := by decide +kernel
theorem dX11_persuade_37 : decode cX11_persuade 37 = .ok (.istore_n 3, 1) := by decide +kernel
theorem dX11_persuade_38 : decode cX11_persuade 38 = .ok (.iload_n 3, 1) := by decide +kernel
theorem dX11_persuade_39 : decode cX11_persuade 39 = .ok (.ifCond .eq 27, 3) := by decide +kernel
theorem dX11_persuade_42 : decode cX11_persuade 42 = .ok (.aload_n 0, 1) := by decide +kernel
theorem dX11_persuade_43 : decode cX11_persuade 43 = .ok (.aload_n 0, 1) := by decide +kernel
theorem dX11_persuade_44 : decode cX11_persuade 44 = .ok (.getfield 29, 3) := by decide +kernel
theorem dX11_persuade_47 : decode cX11_persuade 47 = .ok (.bipush 15, 2) := by decide +kernel
theorem dX11_persuade_49 : decode cX11_persuade 49 = .ok (.iaload, 1) := by decide +kernel
theorem dX11_persuade_50 : decode cX11_persuade 50 = .ok (.iload_n 2, 1) := by decide +kernel
theorem dX11_persuade_51 : decode cX11_persuade 51 = .ok (.ior, 1) := by decide +kernel
theorem dX11_persuade_52 : decode cX11_persuade 52 = .ok (.invokevirtual 378, 3) := by decide +kernel
theorem dX11_persuade_55 : decode cX11_persuade 55 = .ok (.aload_n 0, 1) := by decide +kernel
theorem dX11_persuade_56 : decode cX11_persuade 56 = .ok (.invokevirtual 381, 3) := by decide +kernel
theorem dX11_persuade_59 : decode cX11_persuade 59 = .ok (.if_icmp .ne 7, 3) := by decide +kernel
theorem dX11_persuade_62 : decode cX11_persuade 62 = .ok (.iload_n 2, 1) := by decide +kernel
theorem dX11_persuade_63 : decode cX11_persuade 63 = .ok (.goto 4, 3) := by decide +kernel
theorem dX11_persuade_66 : decode cX11_persuade 66 = .ok (.iload_n 1, 1) := by decide +kernel
theorem dX11_persuade_67 : decode cX11_persuade 67 = .ok (.istore_n 1, 1) := by decide +kernel
theorem dX11_persuade_68 : decode cX11_persuade 68 = .ok (.iinc 2 1, 3) := by decide +kernel
theorem dX11_persuade_71 : decode cX11_persuade 71 = .ok (.goto (-62), 3) := by decide +kernel
theorem dX11_persuade_74 : decode cX11_persuade 74 = .ok (.aload_n 0, 1) := by decide +kernel
theorem dX11_persuade_75 : decode cX11_persuade 75 = .ok (.iconst 0, 1) := by decide +kernel
theorem dX11_persuade_76 : decode cX11_persuade 76 = .ok (.putfield 110, 3) := by decide +kernel
theorem dX11_persuade_79 : decode cX11_persuade 79 = .ok (.aload_n 0, 1) := by decide +kernel
theorem dX11_persuade_80 : decode cX11_persuade 80 = .ok (.iload_n 1, 1) := by decide +kernel
theorem dX11_persuade_81 : decode cX11_persuade 81 = .ok (.i2l, 1) := by decide +kernel
theorem dX11_persuade_82 : decode cX11_persuade 82 = .ok (.invokevirtual 316, 3) := by decide +kernel
theorem dX11_persuade_85 : decode cX11_persuade 85 = .ok (.iload_n 1, 1) := by decide +kernel
theorem dX11_persuade_86 : decode cX11_persuade 86 = .ok (.invokestatic 248, 3) := by decide +kernel
theorem dX11_persuade_89 : decode cX11_persuade 89 = .ok (.ireturn, 1) := by decide +kernel
theorem dX11_firm_0 : decode cX11_firm 0 = .ok (.aload_n 0, 1) := by decide +kernel
theorem dX11_firm_1 : decode cX11_firm 1 = .ok (.iconst 0, 1) := by decide +kernel
theorem dX11_firm_2 : decode cX11_firm 2 = .ok (.putfield 102, 3) := by decide +kernel
theorem dX11_firm_5 : decode cX11_firm 5 = .ok (.iconst 0, 1) := by decide +kernel
theorem dX11_firm_6 : decode cX11_firm 6 = .ok (.istore_n 1, 1) := by decide +kernel
theorem dX11_firm_7 : decode cX11_firm 7 = .ok (.iconst 0, 1) := by decide +kernel
theorem dX11_firm_8 : decode cX11_firm 8 = .ok (.istore_n 2, 1) := by decide +kernel
theorem dX11_firm_9 : decode cX11_firm 9 = .ok (.iload_n 2, 1) := by decide +kernel
theorem dX11_firm_10 : decode cX11_firm 10 = .ok (.aload_n 0, 1) := by decide +kernel
theorem dX11_firm_11 : decode cX11_firm 11 = .ok (.getfield 202, 3) := by decide +kernel
theorem dX11_firm_14 : decode cX11_firm 14 = .ok (.if_icmp .ge 43, 3) := by decide +kernel
theorem dX11_firm_17 : decode cX11_firm 17 = .ok (.iload_n 1, 1) := by decide +kernel
theorem dX11_firm_18 : decode cX11_firm 18 = .ok (.aload_n 0, 1) := by decide +kernel
theorem dX11_firm_19 : decode cX11_firm 19 = .ok (.getfield 23, 3) := by decide +kernel
theorem dX11_firm_22 : decode cX11_firm 22 = .ok (.iload_n 2, 1) := by decide +kernel
theorem dX11_firm_23 : decode cX11_firm 23 = .ok (.iaload, 1) := by decide +kernel
theorem dX11_firm_24 : decode cX11_firm 24 = .ok (.ifCond .eq 18, 3) := by decide +kernel
theorem dX11_firm_27 : decode cX11_firm 27 = .ok (.aload_n 0, 1) := by decide +kernel
theorem dX11_firm_28 : decode cX11_firm 28 = .ok (.getfield 23, 3) := by decide +kernel
theorem dX11_firm_31 : decode cX11_firm 31 = .ok (.iload_n 2, 1) := by decide +kernel
theorem dX11_firm_32 : decode cX11_firm 32 = .ok (.iaload, 1) := by decide +kernel
theorem dX11_firm_33 : decode cX11_firm 33 = .ok (.aload_n 0, 1) := by decide +kernel
theorem dX11_firm_34 : decode cX11_firm 34 = .ok (.getfield 202, 3) := by decide +kernel
theorem dX11_firm_37 : decode cX11_firm 37 = .ok (.iconst 1, 1) := by decide +kernel
theorem dX11_firm_38 : decode cX11_firm 38 = .ok (.isub, 1) := by decide +kernel
theorem dX11_firm_39 : decode cX11_firm 39 = .ok (.if_icmp .le 9, 3) := by decide +kernel
theorem dX11_firm_42 : decode cX11_firm 42 = .ok (.iconst 1, 1) := by decide +kernel
theorem dX11_firm_43 : decode cX11_firm 43 = .ok (.iload_n 2, 1) := by decide +kernel
theorem dX11_firm_44 : decode cX11_firm 44 = .ok (.ishl, 1) := by decide +kernel
theorem dX11_firm_45 : decode cX11_firm 45 = .ok (.goto 4, 3) := by decide +kernel
theorem dX11_firm_48 : decode cX11_firm 48 = .ok (.iconst 0, 1) := by decide +kernel
theorem dX11_firm_49 : decode cX11_firm 49 = .ok (.ior, 1) := by decide +kernel
theorem dX11_firm_50 : decode cX11_firm 50 = .ok (.istore_n 1, 1) := by decide +kernel
theorem dX11_firm_51 : decode cX11_firm 51 = .ok (.iinc 2 1, 3) := by decide +kernel
theorem dX11_firm_54 : decode cX11_firm 54 = .ok (.goto (-45), 3) := by decide +kernel
theorem dX11_firm_57 : decode cX11_firm 57 = .ok (.aload_n 0, 1) := by decide +kernel
theorem dX11_firm_58 : decode cX11_firm 58 = .ok (.iconst 0, 1) := by decide +kernel
theorem dX11_firm_59 : decode cX11_firm 59 = .ok (.putfield 110, 3) := by decide +kernel
theorem dX11_firm_62 : decode cX11_firm 62 = .ok (.aload_n 0, 1) := by decide +kernel
theorem dX11_firm_63 : decode cX11_firm 63 = .ok (.iload_n 1, 1) := by decide +kernel
theorem dX11_firm_64 : decode cX11_firm 64 = .ok (.invokestatic 248, 3) := by decide +kernel
theorem dX11_firm_67 : decode cX11_firm 67 = .ok (.i2l, 1) := by decide +kernel
theorem dX11_firm_68 : decode cX11_firm 68 = .ok (.invokevirtual 316, 3) := by decide +kernel
theorem dX11_firm_71 : decode cX11_firm 71 = .ok (.iload_n 1, 1) := by decide +kernel
theorem dX11_firm_72 : decode cX11_firm 72 = .ok (.ireturn, 1) := by decide +kernel
theorem dX11_law_0 : decode cX11_law 0 = .ok (.aload_n 0, 1) := by decide +kernel
theorem dX11_law_1 : decode cX11_law 1 = .ok (.iconst 0, 1) := by decide +kernel
theorem dX11_law_2 : decode cX11_law 2 = .ok (.putfield 102, 3) := by decide +kernel
theorem dX11_law_5 : decode cX11_law 5 = .ok (.aload_n 0, 1) := by decide +kernel
theorem dX11_law_6 : decode cX11_law 6 = .ok (.invokevirtual 226, 3) := by decide +kernel
theorem dX11_law_9 : decode cX11_law 9 = .ok (.istore_n 1, 1) := by decide +kernel
theorem dX11_law_10 : decode cX11_law 10 = .ok (.iload_n 1, 1) := by decide +kernel
theorem dX11_law_11 : decode cX11_law 11 = .ok (.ifCond .ge 11, 3) := by decide +kernel
theorem dX11_law_14 : decode cX11_law 14 = .ok (.iload_n 1, 1) := by decide +kernel
theorem dX11_law_15 : decode cX11_law 15 = .ok (.iconst 1, 1) := by decide +kernel
theorem dX11_law_16 : decode cX11_law 16 = .ok (.iadd, 1) := by decide +kernel
theorem dX11_law_17 : decode cX11_law 17 = .ok (.sipush 10000, 3) := by decide +kernel
theorem dX11_law_20 : decode cX11_law 20 = .ok (.isub, 1) := by decide +kernel
theorem dX11_law_21 : decode cX11_law 21 = .ok (.ireturn, 1) := by decide +kernel
theorem dX11_law_22 : decode cX11_law 22 = .ok (.aload_n 0, 1) := by decide +kernel
theorem dX11_law_23 : decode cX11_law 23 = .ok (.invokevirtual 336, 3) := by decide +kernel
theorem dX11_law_26 : decode cX11_law 26 = .ok (.istore_n 2, 1) := by decide +kernel
theorem dX11_law_27 : decode cX11_law 27 = .ok (.aload_n 0, 1) := by decide +kernel
theorem dX11_law_28 : decode cX11_law 28 = .ok (.getfield 233, 3) := by decide +kernel
theorem dX11_law_31 : decode cX11_law 31 = .ok (.istore_n 3, 1) := by decide +kernel
theorem dX11_law_32 : decode cX11_law 32 = .ok (.iconst 0, 1) := by decide +kernel
theorem dX11_law_33 : decode cX11_law 33 = .ok (.istore 4, 2) := by decide +kernel
theorem dX11_law_35 : decode cX11_law 35 = .ok (.iload 4, 2) := by decide +kernel
theorem dX11_law_37 : decode cX11_law 37 = .ok (.aload_n 0, 1) := by decide +kernel
theorem dX11_law_38 : decode cX11_law 38 = .ok (.getfield 233, 3) := by decide +kernel
theorem dX11_law_41 : decode cX11_law 41 = .ok (.if_icmp .ge 23, 3) := by decide +kernel
theorem dX11_law_44 : decode cX11_law 44 = .ok (.aload_n 0, 1) := by decide +kernel
theorem dX11_law_45 : decode cX11_law 45 = .ok (.getfield 74, 3) := by decide +kernel
theorem dX11_law_48 : decode cX11_law 48 = .ok (.iload 4, 2) := by decide +kernel
