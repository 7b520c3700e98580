theorem dX6_turn_16 : decode cX6_turn 16 = .ok (.iconst 0, 1) := by decide +kernel
theorem dX6_turn_17 : decode cX6_turn 17 = .ok (.invokevirtual 160, 3) := by decide +kernel
theorem dX6_turn_20 : decode cX6_turn 20 = .ok (.istore_n 2, 1) := by decide +kernel
theorem dX6_turn_21 : decode cX6_turn 21 = .ok (.aload_n 0, 1) := by decide +kernel
theorem dX6_turn_22 : decode cX6_turn 22 = .ok (.getfield 19, 3) := by decide +kernel
theorem dX6_turn_25 : decode cX6_turn 25 = .ok (.iload_n 1, 1) := by decide +kernel
theorem dX6_turn_26 : decode cX6_turn 26 = .ok (.iconst 1, 1) := by decide +kernel
theorem dX6_turn_27 : decode cX6_turn 27 = .ok (.invokevirtual 160, 3) := by decide +kernel
theorem dX6_turn_30 : decode cX6_turn 30 = .ok (.istore_n 3, 1) := by decide +kernel
theorem dX6_turn_31 : decode cX6_turn 31 = .ok (.aload_n 0, 1) := by decide +kernel
theorem dX6_turn_32 : decode cX6_turn 32 = .ok (.getfield 19, 3) := by decide +kernel
theorem dX6_turn_35 : decode cX6_turn 35 = .ok (.iload_n 1, 1) := by decide +kernel
theorem dX6_turn_36 : decode cX6_turn 36 = .ok (.iconst 0, 1) := by decide +kernel
theorem dX6_turn_37 : decode cX6_turn 37 = .ok (.iload_n 3, 1) := by decide +kernel
theorem dX6_turn_38 : decode cX6_turn 38 = .ok (.invokevirtual 79, 3) := by decide +kernel
theorem dX6_turn_41 : decode cX6_turn 41 = .ok (.aload_n 0, 1) := by decide +kernel
theorem dX6_turn_42 : decode cX6_turn 42 = .ok (.getfield 19, 3) := by decide +kernel
theorem dX6_turn_45 : decode cX6_turn 45 = .ok (.iload_n 1, 1) := by decide +kernel
theorem dX6_turn_46 : decode cX6_turn 46 = .ok (.iconst 1, 1) := by decide +kernel
theorem dX6_turn_47 : decode cX6_turn 47 = .ok (.iload_n 2, 1) := by decide +kernel
theorem dX6_turn_48 : decode cX6_turn 48 = .ok (.invokevirtual 79, 3) := by decide +kernel
theorem dX6_turn_51 : decode cX6_turn 51 = .ok (.aload_n 0, 1) := by decide +kernel
theorem dX6_turn_52 : decode cX6_turn 52 = .ok (.invokevirtual 86, 3) := by decide +kernel
theorem dX6_turn_55 : decode cX6_turn 55 = .ok (.iload_n 3, 1) := by decide +kernel
theorem dX6_turn_56 : decode cX6_turn 56 = .ok (.ireturn, 1) := by decide +kernel
theorem dX6_isError_0 : decode cX6_isError 0 = .ok (.iload_n 0, 1) := by decide +kernel
theorem dX6_isError_1 : decode cX6_isError 1 = .ok (.bipush (-101), 2) := by decide +kernel
theorem dX6_isError_3 : decode cX6_isError 3 = .ok (.if_icmp .gt 7, 3) := by decide +kernel
theorem dX6_isError_6 : decode cX6_isError 6 = .ok (.iconst 1, 1) := by decide +kernel
theorem dX6_isError_7 : decode cX6_isError 7 = .ok (.goto 4, 3) := by decide +kernel
theorem dX6_isError_10 : decode cX6_isError 10 = .ok (.iconst 0, 1) := by decide +kernel
theorem dX6_isError_11 : decode cX6_isError 11 = .ok (.ireturn, 1) := by decide +kernel
theorem dX6_say_0 : decode cX6_say 0 = .ok (.aload_n 0, 1) := by decide +kernel
theorem dX6_say_1 : decode cX6_say 1 = .ok (.getfield 10, 3) := by decide +kernel
theorem dX6_say_4 : decode cX6_say 4 = .ok (.invokevirtual 92, 3) := by decide +kernel
theorem dX6_say_7 : decode cX6_say 7 = .ok (.istore_n 1, 1) := by decide +kernel
theorem dX6_say_8 : decode cX6_say 8 = .ok (.iload_n 1, 1) := by decide +kernel
theorem dX6_say_9 : decode cX6_say 9 = .ok (.iconst (-1), 1) := by decide +kernel
theorem dX6_say_10 : decode cX6_say 10 = .ok (.if_icmp .ne 6, 3) := by decide +kernel
theorem dX6_say_13 : decode cX6_say 13 = .ok (.bipush (-103), 2) := by decide +kernel
theorem dX6_say_15 : decode cX6_say 15 = .ok (.ireturn, 1) := by decide +kernel
theorem dX6_say_16 : decode cX6_say 16 = .ok (.aload_n 0, 1) := by decide +kernel
theorem dX6_say_17 : decode cX6_say 17 = .ok (.getfield 10, 3) := by decide +kernel
theorem dX6_say_20 : decode cX6_say 20 = .ok (.invokevirtual 95, 3) := by decide +kernel
theorem dX6_say_23 : decode cX6_say 23 = .ok (.istore_n 2, 1) := by decide +kernel
theorem dX6_say_24 : decode cX6_say 24 = .ok (.iload_n 1, 1) := by decide +kernel
theorem dX6_say_25 : decode cX6_say 25 = .ok (.tableswitch 89 0 5 #[39, 47, 55, 63, 76, 89], 39) := by decide +kernel
theorem dX6_say_64 : decode cX6_say 64 = .ok (.aload_n 0, 1) := by decide +kernel
theorem dX6_say_65 : decode cX6_say 65 = .ok (.invokevirtual 98, 3) := by decide +kernel
theorem dX6_say_68 : decode cX6_say 68 = .ok (.istore_n 3, 1) := by decide +kernel
theorem dX6_say_69 : decode cX6_say 69 = .ok (.goto 54, 3) := by decide +kernel
theorem dX6_say_72 : decode cX6_say 72 = .ok (.aload_n 0, 1) := by decide +kernel
theorem dX6_say_73 : decode cX6_say 73 = .ok (.invokevirtual 101, 3) := by decide +kernel
theorem dX6_say_76 : decode cX6_say 76 = .ok (.istore_n 3, 1) := by decide +kernel
theorem dX6_say_77 : decode cX6_say 77 = .ok (.goto 46, 3) := by decide +kernel
theorem dX6_say_80 : decode cX6_say 80 = .ok (.aload_n 0, 1) := by decide +kernel
theorem dX6_say_81 : decode cX6_say 81 = .ok (.invokevirtual 104, 3) := by decide +kernel
theorem dX6_say_84 : decode cX6_say 84 = .ok (.istore_n 3, 1) := by decide +kernel
theorem dX6_say_85 : decode cX6_say 85 = .ok (.goto 38, 3) := by decide +kernel
theorem dX6_say_88 : decode cX6_say 88 = .ok (.aload_n 0, 1) := by decide +kernel
theorem dX6_say_89 : decode cX6_say 89 = .ok (.iload_n 2, 1) := by decide +kernel
theorem dX6_say_90 : decode cX6_say 90 = .ok (.bipush 97, 2) := by decide +kernel
theorem dX6_say_92 : decode cX6_say 92 = .ok (.isub, 1) := by decide +kernel
theorem dX6_say_93 : decode cX6_say 93 = .ok (.iconst 1, 1) := by decide +kernel
theorem dX6_say_94 : decode cX6_say 94 = .ok (.invokevirtual 107, 3) := by decide +kernel
theorem dX6_say_97 : decode cX6_say 97 = .ok (.istore_n 3, 1) := by decide +kernel
theorem dX6_say_98 : decode cX6_say 98 = .ok (.goto 25, 3) := by decide +kernel
theorem dX6_say_101 : decode cX6_say 101 = .ok (.aload_n 0, 1) := by decide +kernel
theorem dX6_say_102 : decode cX6_say 102 = .ok (.iload_n 2, 1) := by decide +kernel
theorem dX6_say_103 : decode cX6_say 103 = .ok (.bipush 97, 2) := by decide +kernel
theorem dX6_say_105 : decode cX6_say 105 = .ok (.isub, 1) := by decide +kernel
theorem dX6_say_106 : decode cX6_say 106 = .ok (.iconst 0, 1) := by decide +kernel
theorem dX6_say_107 : decode cX6_say 107 = .ok (.invokevirtual 107, 3) := by decide +kernel
theorem dX6_say_110 : decode cX6_say 110 = .ok (.istore_n 3, 1) := by decide +kernel
theorem dX6_say_111 : decode cX6_say 111 = .ok (.goto 12, 3) := by decide +kernel
theorem dX6_say_114 : decode cX6_say 114 = .ok (.aload_n 0, 1) := by decide +kernel
theorem dX6_say_115 : decode cX6_say 115 = .ok (.iload_n 2, 1) := by decide +kernel
theorem dX6_say_116 : decode cX6_say 116 = .ok (.bipush 48, 2) := by decide +kernel
theorem dX6_say_118 : decode cX6_say 118 = .ok (.isub, 1) := by decide +kernel
theorem dX6_say_119 : decode cX6_say 119 = .ok (.invokevirtual 111, 3) := by decide +kernel
theorem dX6_say_122 : decode cX6_say 122 = .ok (.istore_n 3, 1) := by decide +kernel
theorem dX6_say_123 : decode cX6_say 123 = .ok (.iload_n 3, 1) := by decide +kernel
theorem dX6_say_124 : decode cX6_say 124 = .ok (.invokestatic 114, 3) := by decide +kernel
theorem dX6_say_127 : decode cX6_say 127 = .ok (.ifCond .ne 11, 3) := by decide +kernel
theorem dX6_say_130 : decode cX6_say 130 = .ok (.aload_n 0, 1) := by decide +kernel
theorem dX6_say_131 : decode cX6_say 131 = .ok (.getfield 10, 3) := by decide +kernel
theorem dX6_say_134 : decode cX6_say 134 = .ok (.iconst 0, 1) := by decide +kernel
theorem dX6_say_135 : decode cX6_say 135 = .ok (.putfield 54, 3) := by decide +kernel
theorem dX6_say_138 : decode cX6_say 138 = .ok (.iload_n 3, 1) := by decide +kernel
theorem dX6_say_139 : decode cX6_say 139 = .ok (.ireturn, 1) := by decide +kernel
theorem dX6_inkOf_0 : decode cX6_inkOf 0 = .ok (.iload_n 0, 1) := by decide +kernel
theorem dX6_inkOf_1 : decode cX6_inkOf 1 = .ok (.ifCond .ne 6, 3) := by decide +kernel
theorem dX6_inkOf_4 : decode cX6_inkOf 4 = .ok (.bipush 46, 2) := by decide +kernel
theorem dX6_inkOf_6 : decode cX6_inkOf 6 = .ok (.ireturn, 1) := by decide +kernel
theorem dX6_inkOf_7 : decode cX6_inkOf 7 = .ok (.iload_n 0, 1) := by decide +kernel
theorem dX6_inkOf_8 : decode cX6_inkOf 8 = .ok (.invokestatic 204, 3) := by decide +kernel
theorem dX6_inkOf_11 : decode cX6_inkOf 11 = .ok (.iconst 1, 1) := by decide +kernel
theorem dX6_inkOf_12 : decode cX6_inkOf 12 = .ok (.if_icmp .le 8, 3) := by decide +kernel
theorem dX6_inkOf_15 : decode cX6_inkOf 15 = .ok (.bipush 35, 2) := by decide +kernel
theorem dX6_inkOf_17 : decode cX6_inkOf 17 = .ok (.goto 10, 3) := by decide +kernel
theorem dX6_inkOf_20 : decode cX6_inkOf 20 = .ok (.bipush 97, 2) := by decide +kernel
theorem dX6_inkOf_22 : decode cX6_inkOf 22 = .ok (.iload_n 0, 1) := by decide +kernel
theorem dX6_inkOf_23 : decode cX6_inkOf 23 = .ok (.invokestatic 173, 3) := by decide +kernel
theorem dX6_inkOf_26 : decode cX6_inkOf 26 = .ok (.iadd, 1) := by decide +kernel
theorem dX6_inkOf_27 : decode cX6_inkOf 27 = .ok (.ireturn, 1) := by decide +kernel
theorem dX6_ink_0 : decode cX6_ink 0 = .ok (.aload_n 0, 1) := by decide +kernel
theorem dX6_ink_1 : decode cX6_ink 1 = .ok (.invokevirtual 118, 3) := by decide +kernel
theorem dX6_ink_4 : decode cX6_ink 4 = .ok (.ifCond .eq 7, 3) := by decide +kernel
theorem dX6_ink_7 : decode cX6_ink 7 = .ok (.iload_n 1, 1) := by decide +kernel
theorem dX6_ink_8 : decode cX6_ink 8 = .ok (.ifCond .ge 6, 3) := by decide +kernel
theorem dX6_ink_11 : decode cX6_ink 11 = .ok (.bipush (-101), 2) := by decide +kernel
theorem dX6_ink_13 : decode cX6_ink 13 = .ok (.ireturn, 1) := by decide +kernel
theorem dX6_ink_14 : decode cX6_ink 14 = .ok (.aload_n 0, 1) := by decide +kernel
theorem dX6_ink_15 : decode cX6_ink 15 = .ok (.getfield 19, 3) := by decide +kernel
theorem dX6_ink_18 : decode cX6_ink 18 = .ok (.getfield 72, 3) := by decide +kernel
theorem dX6_ink_21 : decode cX6_ink 21 = .ok (.iconst 1, 1) := by decide +kernel
theorem dX6_ink_22 : decode cX6_ink 22 = .ok (.iadd, 1) := by decide +kernel
theorem dX6_ink_23 : decode cX6_ink 23 = .ok (.istore_n 2, 1) := by decide +kernel
theorem dX6_ink_24 : decode cX6_ink 24 = .ok (.iload_n 1, 1) := by decide +kernel
theorem dX6_ink_25 : decode cX6_ink 25 = .ok (.iload_n 2, 1) := by decide +kernel
theorem dX6_ink_26 : decode cX6_ink 26 = .ok (.idiv, 1) := by decide +kernel
theorem dX6_ink_27 : decode cX6_ink 27 = .ok (.istore_n 3, 1) := by decide +kernel
theorem dX6_ink_28 : decode cX6_ink 28 = .ok (.iload_n 1, 1) := by decide +kernel
theorem dX6_ink_29 : decode cX6_ink 29 = .ok (.iload_n 2, 1) := by decide +kernel
theorem dX6_ink_30 : decode cX6_ink 30 = .ok (.irem, 1) := by decide +kernel
theorem dX6_ink_31 : decode cX6_ink 31 = .ok (.istore 4, 2) := by decide +kernel
theorem dX6_ink_33 : decode cX6_ink 33 = .ok (.aload_n 0, 1) := by decide +kernel
theorem dX6_ink_34 : decode cX6_ink 34 = .ok (.getfield 50, 3) := by decide +kernel
theorem dX6_ink_37 : decode cX6_ink 37 = .ok (.invokevirtual 122, 3) := by decide +kernel
theorem dX6_ink_40 : decode cX6_ink 40 = .ok (.istore 5, 2) := by decide +kernel
theorem dX6_ink_42 : decode cX6_ink 42 = .ok (.iload_n 3, 1) := by decide +kernel
theorem dX6_ink_43 : decode cX6_ink 43 = .ok (.iload 5, 2) := by decide +kernel
theorem dX6_ink_45 : decode cX6_ink 45 = .ok (.if_icmp .lt 6, 3) := by decide +kernel
theorem dX6_ink_48 : decode cX6_ink 48 = .ok (.bipush (-101), 2) := by decide +kernel
theorem dX6_ink_50 : decode cX6_ink 50 = .ok (.ireturn, 1) := by decide +kernel
theorem dX6_ink_51 : decode cX6_ink 51 = .ok (.iload 4, 2) := by decide +kernel
theorem dX6_ink_53 : decode cX6_ink 53 = .ok (.aload_n 0, 1) := by decide +kernel
theorem dX6_ink_54 : decode cX6_ink 54 = .ok (.getfield 19, 3) := by decide +kernel
theorem dX6_ink_57 : decode cX6_ink 57 = .ok (.getfield 72, 3) := by decide +kernel
theorem dX6_ink_60 : decode cX6_ink 60 = .ok (.if_icmp .ge 21, 3) := by decide +kernel
theorem dX6_ink_63 : decode cX6_ink 63 = .ok (.aload_n 0, 1) := by decide +kernel
theorem dX6_ink_64 : decode cX6_ink 64 = .ok (.getfield 50, 3) := by decide +kernel
theorem dX6_ink_67 : decode cX6_ink 67 = .ok (.aload_n 0, 1) := by decide +kernel
theorem dX6_ink_68 : decode cX6_ink 68 = .ok (.getfield 26, 3) := by decide +kernel
theorem dX6_ink_71 : decode cX6_ink 71 = .ok (.iload_n 3, 1) := by decide +kernel
theorem dX6_ink_72 : decode cX6_ink 72 = .ok (.iload 4, 2) := by decide +kernel
theorem dX6_ink_74 : decode cX6_ink 74 = .ok (.invokevirtual 125, 3) := by decide +kernel
theorem dX6_ink_77 : decode cX6_ink 77 = .ok (.invokestatic 129, 3) := by decide +kernel
theorem dX6_ink_80 : decode cX6_ink 80 = .ok (.ireturn, 1) := by decide +kernel
theorem dX6_ink_81 : decode cX6_ink 81 = .ok (.iload_n 3, 1) := by decide +kernel
theorem dX6_ink_82 : decode cX6_ink 82 = .ok (.iload 5, 2) := by decide +kernel
theorem dX6_ink_84 : decode cX6_ink 84 = .ok (.iconst 1, 1) := by decide +kernel
theorem dX6_ink_85 : decode cX6_ink 85 = .ok (.isub, 1) := by decide +kernel
theorem dX6_ink_86 : decode cX6_ink 86 = .ok (.if_icmp .ge 8, 3) := by decide +kernel
theorem dX6_ink_89 : decode cX6_ink 89 = .ok (.bipush 47, 2) := by decide +kernel
theorem dX6_ink_91 : decode cX6_ink 91 = .ok (.goto 5, 3) := by decide +kernel
theorem dX6_ink_94 : decode cX6_ink 94 = .ok (.bipush (-101), 2) := by decide +kernel
theorem dX6_ink_96 : decode cX6_ink 96 = .ok (.ireturn, 1) := by decide +kernel
theorem dX6_breakingSet_0 : decode cX6_breakingSet 0 = .ok (.aload_n 0, 1) := by decide +kernel
theorem dX6_breakingSet_1 : decode cX6_breakingSet 1 = .ok (.getfield 19, 3) := by decide +kernel
theorem dX6_breakingSet_4 : decode cX6_breakingSet 4 = .ok (.invokevirtual 316, 3) := by decide +kernel
theorem dX6_breakingSet_7 : decode cX6_breakingSet 7 = .ok (.istore_n 1, 1) := by decide +kernel
theorem dX6_breakingSet_8 : decode cX6_breakingSet 8 = .ok (.iconst 0, 1) := by decide +kernel
theorem dX6_breakingSet_9 : decode cX6_breakingSet 9 = .ok (.istore_n 2, 1) := by decide +kernel
theorem dX6_breakingSet_10 : decode cX6_breakingSet 10 = .ok (.iload_n 2, 1) := by decide +kernel
theorem dX6_breakingSet_11 : decode cX6_breakingSet 11 = .ok (.bipush 6, 2) := by decide +kernel
theorem dX6_breakingSet_13 : decode cX6_breakingSet 13 = .ok (.if_icmp .gt 63, 3) := by decide +kernel
theorem dX6_breakingSet_16 : decode cX6_breakingSet 16 = .ok (.iconst 0, 1) := by decide +kernel
theorem dX6_breakingSet_17 : decode cX6_breakingSet 17 = .ok (.istore_n 3, 1) := by decide +kernel
theorem dX6_breakingSet_18 : decode cX6_breakingSet 18 = .ok (.iload_n 3, 1) := by decide +kernel
theorem dX6_breakingSet_19 : decode cX6_breakingSet 19 = .ok (.bipush 64, 2) := by decide +kernel
theorem dX6_breakingSet_21 : decode cX6_breakingSet 21 = .ok (.if_icmp .ge 49, 3) := by decide +kernel
theorem dX6_breakingSet_24 : decode cX6_breakingSet 24 = .ok (.iload_n 3, 1) := by decide +kernel
theorem dX6_breakingSet_25 : decode cX6_breakingSet 25 = .ok (.invokestatic 204, 3) := by decide +kernel
theorem dX6_breakingSet_28 : decode cX6_breakingSet 28 = .ok (.iload_n 2, 1) := by decide +kernel
theorem dX6_breakingSet_29 : decode cX6_breakingSet 29 = .ok (.if_icmp .ne 35, 3) := by decide +kernel
theorem dX6_breakingSet_32 : decode cX6_breakingSet 32 = .ok (.iload_n 3, 1) := by decide +kernel
theorem dX6_breakingSet_33 : decode cX6_breakingSet 33 = .ok (.iload_n 1, 1) := by decide +kernel
theorem dX6_breakingSet_34 : decode cX6_breakingSet 34 = .ok (.iconst (-1), 1) := by decide +kernel
theorem dX6_breakingSet_35 : decode cX6_breakingSet 35 = .ok (.ixor, 1) := by decide +kernel
theorem dX6_breakingSet_36 : decode cX6_breakingSet 36 = .ok (.iand, 1) := by decide +kernel
theorem dX6_breakingSet_37 : decode cX6_breakingSet 37 = .ok (.ifCond .ne 27, 3) := by decide +kernel
theorem dX6_breakingSet_40 : decode cX6_breakingSet 40 = .ok (.aload_n 0, 1) := by decide +kernel
theorem dX6_breakingSet_41 : decode cX6_breakingSet 41 = .ok (.getfield 30, 3) := by decide +kernel
theorem dX6_breakingSet_44 : decode cX6_breakingSet 44 = .ok (.aload_n 0, 1) := by decide +kernel
theorem dX6_breakingSet_45 : decode cX6_breakingSet 45 = .ok (.getfield 19, 3) := by decide +kernel
theorem dX6_breakingSet_48 : decode cX6_breakingSet 48 = .ok (.iload_n 3, 1) := by decide +kernel
theorem dX6_breakingSet_49 : decode cX6_breakingSet 49 = .ok (.invokevirtual 307, 3) := by decide +kernel
theorem dX6_breakingSet_52 : decode cX6_breakingSet 52 = .ok (.aload_n 0, 1) := by decide +kernel
theorem dX6_breakingSet_53 : decode cX6_breakingSet 53 = .ok (.getfield 30, 3) := by decide +kernel
theorem dX6_breakingSet_56 : decode cX6_breakingSet 56 = .ok (.invokevirtual 237, 3) := by decide +kernel
theorem dX6_breakingSet_59 : decode cX6_breakingSet 59 = .ok (.ifCond .ne 5, 3) := by decide +kernel
theorem dX6_breakingSet_62 : decode cX6_breakingSet 62 = .ok (.iload_n 3, 1) := by decide +kernel
theorem dX6_breakingSet_63 : decode cX6_breakingSet 63 = .ok (.ireturn, 1) := by decide +kernel
theorem dX6_breakingSet_64 : decode cX6_breakingSet 64 = .ok (.iinc 3 1, 3) := by decide +kernel
theorem dX6_breakingSet_67 : decode cX6_breakingSet 67 = .ok (.goto (-49), 3) := by decide +kernel
theorem dX6_breakingSet_70 : decode cX6_breakingSet 70 = .ok (.iinc 2 1, 3) := by decide +kernel
theorem dX6_breakingSet_73 : decode cX6_breakingSet 73 = .ok (.goto (-63), 3) := by decide +kernel
theorem dX6_breakingSet_76 : decode cX6_breakingSet 76 = .ok (.iconst (-1), 1) := by decide +kernel
theorem dX6_breakingSet_77 : decode cX6_breakingSet 77 = .ok (.ireturn, 1) := by decide +kernel
theorem dX6_about_0 : decode cX6_about 0 = .ok (.iload_n 1, 1) := by decide +kernel
theorem dX6_about_1 : decode cX6_about 1 = .ok (.ifCond .lt 9, 3) := by decide +kernel
theorem dX6_about_4 : decode cX6_about 4 = .ok (.iload_n 1, 1) := by decide +kernel
theorem dX6_about_5 : decode cX6_about 5 = .ok (.bipush 9, 2) := by decide +kernel
theorem dX6_about_7 : decode cX6_about 7 = .ok (.if_icmp .le 6, 3) := by decide +kernel
theorem dX6_about_10 : decode cX6_about 10 = .ok (.bipush (-102), 2) := by decide +kernel
theorem dX6_about_12 : decode cX6_about 12 = .ok (.ireturn, 1) := by decide +kernel
theorem dX6_about_13 : decode cX6_about 13 = .ok (.aload_n 0, 1) := by decide +kernel
theorem dX6_about_14 : decode cX6_about 14 = .ok (.invokevirtual 118, 3) := by decide +kernel
theorem dX6_about_17 : decode cX6_about 17 = .ok (.ifCond .ne 6, 3) := by decide +kernel
theorem dX6_about_20 : decode cX6_about 20 = .ok (.bipush (-103), 2) := by decide +kernel
theorem dX6_about_22 : decode cX6_about 22 = .ok (.ireturn, 1) := by decide +kernel
theorem dX6_about_23 : decode cX6_about 23 = .ok (.iload_n 1, 1) := by decide +kernel
theorem dX6_about_24 : decode cX6_about 24 = .ok (.tableswitch 133 0 8 #[52, 60, 68, 76, 84, 92, 97, 105, 113], 52) := by decide +kernel
theorem dX6_about_76 : decode cX6_about 76 = .ok (.aload_n 0, 1) := by decide +kernel
theorem dX6_about_77 : decode cX6_about 77 = .ok (.getfield 19, 3) := by decide +kernel
theorem dX6_about_80 : decode cX6_about 80 = .ok (.getfield 72, 3) := by decide +kernel
theorem dX6_about_83 : decode cX6_about 83 = .ok (.ireturn, 1) := by decide +kernel
theorem dX6_about_84 : decode cX6_about 84 = .ok (.aload_n 0, 1) := by decide +kernel
theorem dX6_about_85 : decode cX6_about 85 = .ok (.getfield 26, 3) := by decide +kernel
theorem dX6_about_88 : decode cX6_about 88 = .ok (.getfield 132, 3) := by decide +kernel
theorem dX6_about_91 : decode cX6_about 91 = .ok (.ireturn, 1) := by decide +kernel
theorem dX6_about_92 : decode cX6_about 92 = .ok (.aload_n 0, 1) := by decide +kernel
theorem dX6_about_93 : decode cX6_about 93 = .ok (.getfield 43, 3) := by decide +kernel
theorem dX6_about_96 : decode cX6_about 96 = .ok (.getfield 135, 3) := by decide +kernel
theorem dX6_about_99 : decode cX6_about 99 = .ok (.ireturn, 1) := by decide +kernel
theorem dX6_about_100 : decode cX6_about 100 = .ok (.aload_n 0, 1) := by decide +kernel
theorem dX6_about_101 : decode cX6_about 101 = .ok (.getfield 26, 3) := by decide +kernel
theorem dX6_about_104 : decode cX6_about 104 = .ok (.getfield 138, 3) := by decide +kernel
theorem dX6_about_107 : decode cX6_about 107 = .ok (.ireturn, 1) := by decide +kernel
theorem dX6_about_108 : decode cX6_about 108 = .ok (.aload_n 0, 1) := by decide +kernel
theorem dX6_about_109 : decode cX6_about 109 = .ok (.getfield 36, 3) := by decide +kernel
theorem dX6_about_112 : decode cX6_about 112 = .ok (.getfield 141, 3) := by decide +kernel
theorem dX6_about_115 : decode cX6_about 115 = .ok (.ireturn, 1) := by decide +kernel
theorem dX6_about_116 : decode cX6_about 116 = .ok (.aload_n 0, 1) := by decide +kernel
theorem dX6_about_117 : decode cX6_about 117 = .ok (.invokevirtual 142, 3) := by decide +kernel
theorem dX6_about_120 : decode cX6_about 120 = .ok (.ireturn, 1) := by decide +kernel
theorem dX6_about_121 : decode cX6_about 121 = .ok (.aload_n 0, 1) := by decide +kernel
theorem dX6_about_122 : decode cX6_about 122 = .ok (.getfield 43, 3) := by decide +kernel
theorem dX6_about_125 : decode cX6_about 125 = .ok (.getfield 145, 3) := by decide +kernel
theorem dX6_about_128 : decode cX6_about 128 = .ok (.ireturn, 1) := by decide +kernel
theorem dX6_about_129 : decode cX6_about 129 = .ok (.aload_n 0, 1) := by decide +kernel
theorem dX6_about_130 : decode cX6_about 130 = .ok (.getfield 50, 3) := by decide +kernel
theorem dX6_about_133 : decode cX6_about 133 = .ok (.invokevirtual 122, 3) := by decide +kernel
theorem dX6_about_136 : decode cX6_about 136 = .ok (.ireturn, 1) := by decide +kernel
theorem dX6_about_137 : decode cX6_about 137 = .ok (.aload_n 0, 1) := by decide +kernel
theorem dX6_about_138 : decode cX6_about 138 = .ok (.getfield 50, 3) := by decide +kernel
theorem dX6_about_141 : decode cX6_about 141 = .ok (.aload_n 0, 1) := by decide +kernel
theorem dX6_about_142 : decode cX6_about 142 = .ok (.getfield 26, 3) := by decide +kernel
theorem dX6_about_145 : decode cX6_about 145 = .ok (.invokevirtual 146, 3) := by decide +kernel
theorem dX6_about_148 : decode cX6_about 148 = .ok (.ifCond .eq 7, 3) := by decide +kernel
theorem dX6_about_151 : decode cX6_about 151 = .ok (.iconst 1, 1) := by decide +kernel
theorem dX6_about_152 : decode cX6_about 152 = .ok (.goto 4, 3) := by decide +kernel
theorem dX6_about_155 : decode cX6_about 155 = .ok (.iconst 0, 1) := by decide +kernel
theorem dX6_about_156 : decode cX6_about 156 = .ok (.ireturn, 1) := by decide +kernel
theorem dX6_about_157 : decode cX6_about 157 = .ok (.aload_n 0, 1) := by decide +kernel
theorem dX6_about_158 : decode cX6_about 158 = .ok (.getfield 50, 3) := by decide +kernel
theorem dX6_about_161 : decode cX6_about 161 = .ok (.aload_n 0, 1) := by decide +kernel
theorem dX6_about_162 : decode cX6_about 162 = .ok (.getfield 19, 3) := by decide +kernel
theorem dX6_about_165 : decode cX6_about 165 = .ok (.aload_n 0, 1) := by decide +kernel
theorem dX6_about_166 : decode cX6_about 166 = .ok (.getfield 26, 3) := by decide +kernel
theorem dX6_about_169 : decode cX6_about 169 = .ok (.invokevirtual 150, 3) := by decide +kernel
theorem dX6_about_172 : decode cX6_about 172 = .ok (.ireturn, 1) := by decide +kernel
theorem dX6_isSide_0 : decode cX6_isSide 0 = .ok (.iload_n 0, 1) := by decide +kernel
theorem dX6_isSide_1 : decode cX6_isSide 1 = .ok (.ifCond .eq 8, 3) := by decide +kernel
theorem dX6_isSide_4 : decode cX6_isSide 4 = .ok (.iload_n 0, 1) := by decide +kernel
theorem dX6_isSide_5 : decode cX6_isSide 5 = .ok (.iconst 1, 1) := by decide +kernel
theorem dX6_isSide_6 : decode cX6_isSide 6 = .ok (.if_icmp .ne 7, 3) := by decide +kernel
theorem dX6_isSide_9 : decode cX6_isSide 9 = .ok (.iconst 1, 1) := by decide +kernel
theorem dX6_isSide_10 : decode cX6_isSide 10 = .ok (.goto 4, 3) := by decide +kernel
theorem dX6_isSide_13 : decode cX6_isSide 13 = .ok (.iconst 0, 1) := by decide +kernel
theorem dX6_isSide_14 : decode cX6_isSide 14 = .ok (.ireturn, 1) := by decide +kernel
theorem dX6_pin_0 : decode cX6_pin 0 = .ok (.aload_n 0, 1) := by decide +kernel
theorem dX6_pin_1 : decode cX6_pin 1 = .ok (.iload_n 1, 1) := by decide +kernel
theorem dX6_pin_2 : decode cX6_pin 2 = .ok (.invokevirtual 154, 3) := by decide +kernel
theorem dX6_pin_5 : decode cX6_pin 5 = .ok (.ifCond .ne 6, 3) := by decide +kernel
theorem dX6_pin_8 : decode cX6_pin 8 = .ok (.bipush (-101), 2) := by decide +kernel
theorem dX6_pin_10 : decode cX6_pin 10 = .ok (.ireturn, 1) := by decide +kernel
theorem dX6_pin_11 : decode cX6_pin 11 = .ok (.iload_n 2, 1) := by decide +kernel
theorem dX6_pin_12 : decode cX6_pin 12 = .ok (.invokestatic 157, 3) := by decide +kernel
theorem dX6_pin_15 : decode cX6_pin 15 = .ok (.ifCond .ne 6, 3) := by decide +kernel
theorem dX6_pin_18 : decode cX6_pin 18 = .ok (.bipush (-102), 2) := by decide +kernel
theorem dX6_pin_20 : decode cX6_pin 20 = .ok (.ireturn, 1) := by decide +kernel
theorem dX6_pin_21 : decode cX6_pin 21 = .ok (.aload_n 0, 1) := by decide +kernel
theorem dX6_pin_22 : decode cX6_pin 22 = .ok (.getfield 19, 3) := by decide +kernel
theorem dX6_pin_25 : decode cX6_pin 25 = .ok (.iload_n 1, 1) := by decide +kernel
theorem dX6_pin_26 : decode cX6_pin 26 = .ok (.iload_n 2, 1) := by decide +kernel
theorem dX6_pin_27 : decode cX6_pin 27 = .ok (.invokevirtual 160, 3) := by decide +kernel
theorem dX6_pin_30 : decode cX6_pin 30 = .ok (.ireturn, 1) := by decide +kernel
theorem dX6_net_0 : decode cX6_net 0 = .ok (.iload_n 1, 1) := by decide +kernel
theorem dX6_net_1 : decode cX6_net 1 = .ok (.invokestatic 164, 3) := by decide +kernel
theorem dX6_net_4 : decode cX6_net 4 = .ok (.ifCond .ne 6, 3) := by decide +kernel
theorem dX6_net_7 : decode cX6_net 7 = .ok (.bipush (-101), 2) := by decide +kernel
theorem dX6_net_9 : decode cX6_net 9 = .ok (.ireturn, 1) := by decide +kernel
theorem dX6_net_10 : decode cX6_net 10 = .ok (.aload_n 0, 1) := by decide +kernel
theorem dX6_net_11 : decode cX6_net 11 = .ok (.getfield 19, 3) := by decide +kernel
theorem dX6_net_14 : decode cX6_net 14 = .ok (.iload_n 1, 1) := by decide +kernel
theorem dX6_net_15 : decode cX6_net 15 = .ok (.invokevirtual 167, 3) := by decide +kernel
theorem dX6_net_18 : decode cX6_net 18 = .ok (.istore_n 3, 1) := by decide +kernel
theorem dX6_net_19 : decode cX6_net 19 = .ok (.iload_n 3, 1) := by decide +kernel
theorem dX6_net_20 : decode cX6_net 20 = .ok (.ifCond .ne 6, 3) := by decide +kernel
theorem dX6_net_23 : decode cX6_net 23 = .ok (.bipush (-101), 2) := by decide +kernel
theorem dX6_net_25 : decode cX6_net 25 = .ok (.ireturn, 1) := by decide +kernel
theorem dX6_net_26 : decode cX6_net 26 = .ok (.iload_n 2, 1) := by decide +kernel
theorem dX6_net_27 : decode cX6_net 27 = .ok (.tableswitch 75 0 4 #[33, 42, 47, 52, 66], 33) := by decide +kernel
theorem dX6_net_60 : decode cX6_net 60 = .ok (.aload_n 0, 1) := by decide +kernel
theorem dX6_net_61 : decode cX6_net 61 = .ok (.getfield 19, 3) := by decide +kernel
theorem dX6_net_64 : decode cX6_net 64 = .ok (.iload_n 1, 1) := by decide +kernel
theorem dX6_net_65 : decode cX6_net 65 = .ok (.invokevirtual 170, 3) := by decide +kernel
theorem dX6_net_68 : decode cX6_net 68 = .ok (.ireturn, 1) := by decide +kernel
theorem dX6_net_69 : decode cX6_net 69 = .ok (.iload_n 3, 1) := by decide +kernel
theorem dX6_net_70 : decode cX6_net 70 = .ok (.invokestatic 173, 3) := by decide +kernel
theorem dX6_net_73 : decode cX6_net 73 = .ok (.ireturn, 1) := by decide +kernel
theorem dX6_net_74 : decode cX6_net 74 = .ok (.iload_n 3, 1) := by decide +kernel
theorem dX6_net_75 : decode cX6_net 75 = .ok (.invokestatic 176, 3) := by decide +kernel
theorem dX6_net_78 : decode cX6_net 78 = .ok (.ireturn, 1) := by decide +kernel
theorem dX6_net_79 : decode cX6_net 79 = .ok (.aload_n 0, 1) := by decide +kernel
theorem dX6_net_80 : decode cX6_net 80 = .ok (.iload_n 1, 1) := by decide +kernel
theorem dX6_net_81 : decode cX6_net 81 = .ok (.invokevirtual 179, 3) := by decide +kernel
theorem dX6_net_84 : decode cX6_net 84 = .ok (.ifCond .eq 7, 3) := by decide +kernel
theorem dX6_net_87 : decode cX6_net 87 = .ok (.iconst 1, 1) := by decide +kernel
theorem dX6_net_88 : decode cX6_net 88 = .ok (.goto 4, 3) := by decide +kernel
theorem dX6_net_91 : decode cX6_net 91 = .ok (.iconst 0, 1) := by decide +kernel
theorem dX6_net_92 : decode cX6_net 92 = .ok (.ireturn, 1) := by decide +kernel
theorem dX6_net_93 : decode cX6_net 93 = .ok (.aload_n 0, 1) := by decide +kernel
theorem dX6_net_94 : decode cX6_net 94 = .ok (.getfield 26, 3) := by decide +kernel
theorem dX6_net_97 : decode cX6_net 97 = .ok (.iload_n 1, 1) := by decide +kernel
theorem dX6_net_98 : decode cX6_net 98 = .ok (.invokevirtual 182, 3) := by decide +kernel
theorem dX6_net_101 : decode cX6_net 101 = .ok (.ireturn, 1) := by decide +kernel
theorem dX6_net_102 : decode cX6_net 102 = .ok (.bipush (-102), 2) := by decide +kernel
theorem dX6_net_104 : decode cX6_net 104 = .ok (.ireturn, 1) := by decide +kernel
theorem dX6_isSegment_0 : decode cX6_isSegment 0 = .ok (.iload_n 1, 1) := by decide +kernel
theorem dX6_isSegment_1 : decode cX6_isSegment 1 = .ok (.ifCond .lt 18, 3) := by decide +kernel
theorem dX6_isSegment_4 : decode cX6_isSegment 4 = .ok (.iload_n 1, 1) := by decide +kernel
theorem dX6_isSegment_5 : decode cX6_isSegment 5 = .ok (.aload_n 0, 1) := by decide +kernel
theorem dX6_isSegment_6 : decode cX6_isSegment 6 = .ok (.getfield 26, 3) := by decide +kernel
theorem dX6_isSegment_9 : decode cX6_isSegment 9 = .ok (.getfield 132, 3) := by decide +kernel
theorem dX6_isSegment_12 : decode cX6_isSegment 12 = .ok (.if_icmp .ge 7, 3) := by decide +kernel
theorem dX6_isSegment_15 : decode cX6_isSegment 15 = .ok (.iconst 1, 1) := by decide +kernel
theorem dX6_isSegment_16 : decode cX6_isSegment 16 = .ok (.goto 4, 3) := by decide +kernel
theorem dX6_isSegment_19 : decode cX6_isSegment 19 = .ok (.iconst 0, 1) := by decide +kernel
theorem dX6_isSegment_20 : decode cX6_isSegment 20 = .ok (.ireturn, 1) := by decide +kernel
theorem dX6_segment_0 : decode cX6_segment 0 = .ok (.aload_n 0, 1) := by decide +kernel
theorem dX6_segment_1 : decode cX6_segment 1 = .ok (.iload_n 1, 1) := by decide +kernel
theorem dX6_segment_2 : decode cX6_segment 2 = .ok (.invokevirtual 185, 3) := by decide +kernel
theorem dX6_segment_5 : decode cX6_segment 5 = .ok (.ifCond .ne 6, 3) := by decide +kernel
theorem dX6_segment_8 : decode cX6_segment 8 = .ok (.bipush (-101), 2) := by decide +kernel
theorem dX6_segment_10 : decode cX6_segment 10 = .ok (.ireturn, 1) := by decide +kernel
theorem dX6_segment_11 : decode cX6_segment 11 = .ok (.iload_n 2, 1) := by decide +kernel
theorem dX6_segment_12 : decode cX6_segment 12 = .ok (.tableswitch 120 0 6 #[44, 54, 64, 74, 84, 97, 110], 44) := by decide +kernel
theorem dX6_segment_56 : decode cX6_segment 56 = .ok (.aload_n 0, 1) := by decide +kernel
theorem dX6_segment_57 : decode cX6_segment 57 = .ok (.getfield 26, 3) := by decide +kernel
theorem dX6_segment_60 : decode cX6_segment 60 = .ok (.getfield 188, 3) := by decide +kernel
theorem dX6_segment_63 : decode cX6_segment 63 = .ok (.iload_n 1, 1) := by decide +kernel
theorem dX6_segment_64 : decode cX6_segment 64 = .ok (.iaload, 1) := by decide +kernel
theorem dX6_segment_65 : decode cX6_segment 65 = .ok (.ireturn, 1) := by decide +kernel
theorem dX6_segment_66 : decode cX6_segment 66 = .ok (.aload_n 0, 1) := by decide +kernel
theorem dX6_segment_67 : decode cX6_segment 67 = .ok (.getfield 26, 3) := by decide +kernel
theorem dX6_segment_70 : decode cX6_segment 70 = .ok (.getfield 192, 3) := by decide +kernel
theorem dX6_segment_73 : decode cX6_segment 73 = .ok (.iload_n 1, 1) := by decide +kernel
theorem dX6_segment_74 : decode cX6_segment 74 = .ok (.iaload, 1) := by decide +kernel
theorem dX6_segment_75 : decode cX6_segment 75 = .ok (.ireturn, 1) := by decide +kernel
theorem dX6_segment_76 : decode cX6_segment 76 = .ok (.aload_n 0, 1) := by decide +kernel
theorem dX6_segment_77 : decode cX6_segment 77 = .ok (.getfield 26, 3) := by decide +kernel
theorem dX6_segment_80 : decode cX6_segment 80 = .ok (.getfield 195, 3) := by decide +kernel
theorem dX6_segment_83 : decode cX6_segment 83 = .ok (.iload_n 1, 1) := by decide +kernel
theorem dX6_segment_84 : decode cX6_segment 84 = .ok (.iaload, 1) := by decide +kernel
theorem dX6_segment_85 : decode cX6_segment 85 = .ok (.ireturn, 1) := by decide +kernel
theorem dX6_segment_86 : decode cX6_segment 86 = .ok (.aload_n 0, 1) := by decide +kernel
theorem dX6_segment_87 : decode cX6_segment 87 = .ok (.getfield 50, 3) := by decide +kernel
theorem dX6_segment_90 : decode cX6_segment 90 = .ok (.getfield 198, 3) := by decide +kernel
theorem dX6_segment_93 : decode cX6_segment 93 = .ok (.iload_n 1, 1) := by decide +kernel
theorem dX6_segment_94 : decode cX6_segment 94 = .ok (.iaload, 1) := by decide +kernel
theorem dX6_segment_95 : decode cX6_segment 95 = .ok (.ireturn, 1) := by decide +kernel
theorem dX6_segment_96 : decode cX6_segment 96 = .ok (.aload_n 0, 1) := by decide +kernel
theorem dX6_segment_97 : decode cX6_segment 97 = .ok (.getfield 26, 3) := by decide +kernel
theorem dX6_segment_100 : decode cX6_segment 100 = .ok (.getfield 201, 3) := by decide +kernel
theorem dX6_segment_103 : decode cX6_segment 103 = .ok (.iload_n 1, 1) := by decide +kernel
theorem dX6_segment_104 : decode cX6_segment 104 = .ok (.iaload, 1) := by decide +kernel
theorem dX6_segment_105 : decode cX6_segment 105 = .ok (.invokestatic 204, 3) := by decide +kernel
theorem dX6_segment_108 : decode cX6_segment 108 = .ok (.ireturn, 1) := by decide +kernel
theorem dX6_segment_109 : decode cX6_segment 109 = .ok (.aload_n 0, 1) := by decide +kernel
theorem dX6_segment_110 : decode cX6_segment 110 = .ok (.getfield 26, 3) := by decide +kernel
theorem dX6_segment_113 : decode cX6_segment 113 = .ok (.getfield 209, 3) := by decide +kernel
theorem dX6_segment_116 : decode cX6_segment 116 = .ok (.iload_n 1, 1) := by decide +kernel
theorem dX6_segment_117 : decode cX6_segment 117 = .ok (.iaload, 1) := by decide +kernel
theorem dX6_segment_118 : decode cX6_segment 118 = .ok (.invokestatic 204, 3) := by decide +kernel
theorem dX6_segment_121 : decode cX6_segment 121 = .ok (.ireturn, 1) := by decide +kernel
theorem dX6_segment_122 : decode cX6_segment 122 = .ok (.aload_n 0, 1) := by decide +kernel
theorem dX6_segment_123 : decode cX6_segment 123 = .ok (.getfield 26, 3) := by decide +kernel
theorem dX6_segment_126 : decode cX6_segment 126 = .ok (.getfield 212, 3) := by decide +kernel
theorem dX6_segment_129 : decode cX6_segment 129 = .ok (.iload_n 1, 1) := by decide +kernel
theorem dX6_segment_130 : decode cX6_segment 130 = .ok (.iaload, 1) := by decide +kernel
theorem dX6_segment_131 : decode cX6_segment 131 = .ok (.ireturn, 1) := by decide +kernel
theorem dX6_segment_132 : decode cX6_segment 132 = .ok (.bipush (-102), 2) := by decide +kernel
theorem dX6_segment_134 : decode cX6_segment 134 = .ok (.ireturn, 1) := by decide +kernel
theorem dX6_above_0 : decode cX6_above 0 = .ok (.aload_n 0, 1) := by decide +kernel
theorem dX6_above_1 : decode cX6_above 1 = .ok (.iload_n 1, 1) := by decide +kernel
theorem dX6_above_2 : decode cX6_above 2 = .ok (.invokevirtual 185, 3) := by decide +kernel
theorem dX6_above_5 : decode cX6_above 5 = .ok (.ifCond .eq 11, 3) := by decide +kernel
theorem dX6_above_8 : decode cX6_above 8 = .ok (.aload_n 0, 1) := by decide +kernel
theorem dX6_above_9 : decode cX6_above 9 = .ok (.iload_n 2, 1) := by decide +kernel
theorem dX6_above_10 : decode cX6_above 10 = .ok (.invokevirtual 185, 3) := by decide +kernel
theorem dX6_above_13 : decode cX6_above 13 = .ok (.ifCond .ne 6, 3) := by decide +kernel
theorem dX6_above_16 : decode cX6_above 16 = .ok (.bipush (-101), 2) := by decide +kernel
theorem dX6_above_18 : decode cX6_above 18 = .ok (.ireturn, 1) := by decide +kernel
theorem dX6_above_19 : decode cX6_above 19 = .ok (.aload_n 0, 1) := by decide +kernel
theorem dX6_above_20 : decode cX6_above 20 = .ok (.getfield 26, 3) := by decide +kernel
theorem dX6_above_23 : decode cX6_above 23 = .ok (.iload_n 1, 1) := by decide +kernel
theorem dX6_above_24 : decode cX6_above 24 = .ok (.iload_n 2, 1) := by decide +kernel
theorem dX6_above_25 : decode cX6_above 25 = .ok (.invokevirtual 215, 3) := by decide +kernel
theorem dX6_above_28 : decode cX6_above 28 = .ok (.ifCond .eq 7, 3) := by decide +kernel
theorem dX6_above_31 : decode cX6_above 31 = .ok (.iconst 1, 1) := by decide +kernel
theorem dX6_above_32 : decode cX6_above 32 = .ok (.goto 4, 3) := by decide +kernel
theorem dX6_above_35 : decode cX6_above 35 = .ok (.iconst 0, 1) := by decide +kernel
theorem dX6_above_36 : decode cX6_above 36 = .ok (.ireturn, 1) := by decide +kernel
theorem dX6_may_0 : decode cX6_may 0 = .ok (.aload_n 0, 1) := by decide +kernel
theorem dX6_may_1 : decode cX6_may 1 = .ok (.iload_n 1, 1) := by decide +kernel
theorem dX6_may_2 : decode cX6_may 2 = .ok (.invokevirtual 185, 3) := by decide +kernel
theorem dX6_may_5 : decode cX6_may 5 = .ok (.ifCond .eq 11, 3) := by decide +kernel
theorem dX6_may_8 : decode cX6_may 8 = .ok (.aload_n 0, 1) := by decide +kernel
theorem dX6_may_9 : decode cX6_may 9 = .ok (.iload_n 2, 1) := by decide +kernel
theorem dX6_may_10 : decode cX6_may 10 = .ok (.invokevirtual 185, 3) := by decide +kernel
theorem dX6_may_13 : decode cX6_may 13 = .ok (.ifCond .ne 6, 3) := by decide +kernel
theorem dX6_may_16 : decode cX6_may 16 = .ok (.bipush (-101), 2) := by decide +kernel
theorem dX6_may_18 : decode cX6_may 18 = .ok (.ireturn, 1) := by decide +kernel
theorem dX6_may_19 : decode cX6_may 19 = .ok (.aload_n 0, 1) := by decide +kernel
theorem dX6_may_20 : decode cX6_may 20 = .ok (.getfield 26, 3) := by decide +kernel
theorem dX6_may_23 : decode cX6_may 23 = .ok (.iload_n 1, 1) := by decide +kernel
theorem dX6_may_24 : decode cX6_may 24 = .ok (.iload_n 2, 1) := by decide +kernel
theorem dX6_may_25 : decode cX6_may 25 = .ok (.invokevirtual 219, 3) := by decide +kernel
theorem dX6_may_28 : decode cX6_may 28 = .ok (.iconst (-1), 1) := by decide +kernel
theorem dX6_may_29 : decode cX6_may 29 = .ok (.if_icmp .ne 20, 3) := by decide +kernel
theorem dX6_may_32 : decode cX6_may 32 = .ok (.aload_n 0, 1) := by decide +kernel
theorem dX6_may_33 : decode cX6_may 33 = .ok (.getfield 26, 3) := by decide +kernel
theorem dX6_may_36 : decode cX6_may 36 = .ok (.iload_n 2, 1) := by decide +kernel
theorem dX6_may_37 : decode cX6_may 37 = .ok (.iload_n 1, 1) := by decide +kernel
theorem dX6_may_38 : decode cX6_may 38 = .ok (.invokevirtual 219, 3) := by decide +kernel
theorem dX6_may_41 : decode cX6_may 41 = .ok (.iconst (-1), 1) := by decide +kernel
theorem dX6_may_42 : decode cX6_may 42 = .ok (.if_icmp .ne 7, 3) := by decide +kernel
theorem dX6_may_45 : decode cX6_may 45 = .ok (.iconst 1, 1) := by decide +kernel
theorem dX6_may_46 : decode cX6_may 46 = .ok (.goto 4, 3) := by decide +kernel
theorem dX6_may_49 : decode cX6_may 49 = .ok (.iconst 0, 1) := by decide +kernel
theorem dX6_may_50 : decode cX6_may 50 = .ok (.istore_n 3, 1) := by decide +kernel
theorem dX6_may_51 : decode cX6_may 51 = .ok (.iload_n 3, 1) := by decide +kernel
theorem dX6_may_52 : decode cX6_may 52 = .ok (.ifCond .eq 19, 3) := by decide +kernel
theorem dX6_may_55 : decode cX6_may 55 = .ok (.aload_n 0, 1) := by decide +kernel
theorem dX6_may_56 : decode cX6_may 56 = .ok (.getfield 26, 3) := by decide +kernel
theorem dX6_may_59 : decode cX6_may 59 = .ok (.iload_n 1, 1) := by decide +kernel
theorem dX6_may_60 : decode cX6_may 60 = .ok (.iload_n 2, 1) := by decide +kernel
theorem dX6_may_61 : decode cX6_may 61 = .ok (.invokevirtual 222, 3) := by decide +kernel
theorem dX6_may_64 : decode cX6_may 64 = .ok (.ifCond .ne 7, 3) := by decide +kernel
theorem dX6_may_67 : decode cX6_may 67 = .ok (.iconst 1, 1) := by decide +kernel
theorem dX6_may_68 : decode cX6_may 68 = .ok (.goto 4, 3) := by decide +kernel
theorem dX6_may_71 : decode cX6_may 71 = .ok (.iconst 0, 1) := by decide +kernel
theorem dX6_may_72 : decode cX6_may 72 = .ok (.ireturn, 1) := by decide +kernel
theorem dX6_ring_0 : decode cX6_ring 0 = .ok (.iload_n 1, 1) := by decide +kernel
theorem dX6_ring_1 : decode cX6_ring 1 = .ok (.ifCond .lt 14, 3) := by decide +kernel
theorem dX6_ring_4 : decode cX6_ring 4 = .ok (.iload_n 1, 1) := by decide +kernel
theorem dX6_ring_5 : decode cX6_ring 5 = .ok (.aload_n 0, 1) := by decide +kernel
theorem dX6_ring_6 : decode cX6_ring 6 = .ok (.getfield 36, 3) := by decide +kernel
theorem dX6_ring_9 : decode cX6_ring 9 = .ok (.getfield 141, 3) := by decide +kernel
theorem dX6_ring_12 : decode cX6_ring 12 = .ok (.if_icmp .lt 6, 3) := by decide +kernel
theorem dX6_ring_15 : decode cX6_ring 15 = .ok (.bipush (-101), 2) := by decide +kernel
theorem dX6_ring_17 : decode cX6_ring 17 = .ok (.ireturn, 1) := by decide +kernel
theorem dX6_ring_18 : decode cX6_ring 18 = .ok (.aload_n 0, 1) := by decide +kernel
theorem dX6_ring_19 : decode cX6_ring 19 = .ok (.getfield 36, 3) := by decide +kernel
theorem dX6_ring_22 : decode cX6_ring 22 = .ok (.getfield 225, 3) := by decide +kernel
theorem dX6_ring_25 : decode cX6_ring 25 = .ok (.iload_n 1, 1) := by decide +kernel
theorem dX6_ring_26 : decode cX6_ring 26 = .ok (.iaload, 1) := by decide +kernel
theorem dX6_ring_27 : decode cX6_ring 27 = .ok (.ireturn, 1) := by decide +kernel
theorem dX6_zone_0 : decode cX6_zone 0 = .ok (.iload_n 1, 1) := by decide +kernel
theorem dX6_zone_1 : decode cX6_zone 1 = .ok (.ifCond .lt 14, 3) := by decide +kernel
theorem dX6_zone_4 : decode cX6_zone 4 = .ok (.iload_n 1, 1) := by decide +kernel
theorem dX6_zone_5 : decode cX6_zone 5 = .ok (.aload_n 0, 1) := by decide +kernel
theorem dX6_zone_6 : decode cX6_zone 6 = .ok (.getfield 43, 3) := by decide +kernel
theorem dX6_zone_9 : decode cX6_zone 9 = .ok (.getfield 145, 3) := by decide +kernel
theorem dX6_zone_12 : decode cX6_zone 12 = .ok (.if_icmp .lt 6, 3) := by decide +kernel
theorem dX6_zone_15 : decode cX6_zone 15 = .ok (.bipush (-101), 2) := by decide +kernel
theorem dX6_zone_17 : decode cX6_zone 17 = .ok (.ireturn, 1) := by decide +kernel
theorem dX6_zone_18 : decode cX6_zone 18 = .ok (.aload_n 0, 1) := by decide +kernel
theorem dX6_zone_19 : decode cX6_zone 19 = .ok (.getfield 43, 3) := by decide +kernel
theorem dX6_zone_22 : decode cX6_zone 22 = .ok (.getfield 228, 3) := by decide +kernel
theorem dX6_zone_25 : decode cX6_zone 25 = .ok (.iload_n 1, 1) := by decide +kernel
theorem dX6_zone_26 : decode cX6_zone 26 = .ok (.iaload, 1) := by decide +kernel
theorem dX6_zone_27 : decode cX6_zone 27 = .ok (.ireturn, 1) := by decide +kernel
theorem dX6_put_0 : decode cX6_put 0 = .ok (.aload_n 0, 1) := by decide +kernel
theorem dX6_put_1 : decode cX6_put 1 = .ok (.iload_n 1, 1) := by decide +kernel
theorem dX6_put_2 : decode cX6_put 2 = .ok (.invokevirtual 154, 3) := by decide +kernel
theorem dX6_put_5 : decode cX6_put 5 = .ok (.ifCond .ne 6, 3) := by decide +kernel
theorem dX6_put_8 : decode cX6_put 8 = .ok (.bipush (-101), 2) := by decide +kernel
theorem dX6_put_10 : decode cX6_put 10 = .ok (.ireturn, 1) := by decide +kernel
theorem dX6_put_11 : decode cX6_put 11 = .ok (.iload_n 2, 1) := by decide +kernel
theorem dX6_put_12 : decode cX6_put 12 = .ok (.invokestatic 157, 3) := by decide +kernel
theorem dX6_put_15 : decode cX6_put 15 = .ok (.ifCond .eq 15, 3) := by decide +kernel
theorem dX6_put_18 : decode cX6_put 18 = .ok (.iload_n 3, 1) := by decide +kernel
theorem dX6_put_19 : decode cX6_put 19 = .ok (.iconst (-1), 1) := by decide +kernel
theorem dX6_put_20 : decode cX6_put 20 = .ok (.if_icmp .eq 13, 3) := by decide +kernel
theorem dX6_put_23 : decode cX6_put 23 = .ok (.iload_n 3, 1) := by decide +kernel
theorem dX6_put_24 : decode cX6_put 24 = .ok (.invokestatic 164, 3) := by decide +kernel
theorem dX6_put_27 : decode cX6_put 27 = .ok (.ifCond .ne 6, 3) := by decide +kernel
theorem dX6_put_30 : decode cX6_put 30 = .ok (.bipush (-102), 2) := by decide +kernel
theorem dX6_put_32 : decode cX6_put 32 = .ok (.ireturn, 1) := by decide +kernel
theorem dX6_put_33 : decode cX6_put 33 = .ok (.aload_n 0, 1) := by decide +kernel
theorem dX6_put_34 : decode cX6_put 34 = .ok (.getfield 19, 3) := by decide +kernel
theorem dX6_put_37 : decode cX6_put 37 = .ok (.iload_n 1, 1) := by decide +kernel
theorem dX6_put_38 : decode cX6_put 38 = .ok (.iload_n 2, 1) := by decide +kernel
theorem dX6_put_39 : decode cX6_put 39 = .ok (.invokevirtual 160, 3) := by decide +kernel
theorem dX6_put_42 : decode cX6_put 42 = .ok (.istore 4, 2) := by decide +kernel
theorem dX6_put_44 : decode cX6_put 44 = .ok (.aload_n 0, 1) := by decide +kernel
theorem dX6_put_45 : decode cX6_put 45 = .ok (.getfield 19, 3) := by decide +kernel
theorem dX6_put_48 : decode cX6_put 48 = .ok (.iload_n 1, 1) := by decide +kernel
theorem dX6_put_49 : decode cX6_put 49 = .ok (.iload_n 2, 1) := by decide +kernel
theorem dX6_put_50 : decode cX6_put 50 = .ok (.iload_n 3, 1) := by decide +kernel
theorem dX6_put_51 : decode cX6_put 51 = .ok (.invokevirtual 79, 3) := by decide +kernel
theorem dX6_put_54 : decode cX6_put 54 = .ok (.aload_n 0, 1) := by decide +kernel
theorem dX6_put_55 : decode cX6_put 55 = .ok (.invokevirtual 86, 3) := by decide +kernel
theorem dX6_put_58 : decode cX6_put 58 = .ok (.iload 4, 2) := by decide +kernel
theorem dX6_put_60 : decode cX6_put 60 = .ok (.ireturn, 1) := by decide +kernel
theorem dX6_set_0 : decode cX6_set 0 = .ok (.aload_n 0, 1) := by decide +kernel
theorem dX6_set_1 : decode cX6_set 1 = .ok (.iload_n 1, 1) := by decide +kernel
theorem dX6_set_2 : decode cX6_set 2 = .ok (.invokevirtual 185, 3) := by decide +kernel
theorem dX6_set_5 : decode cX6_set 5 = .ok (.ifCond .ne 6, 3) := by decide +kernel
theorem dX6_set_8 : decode cX6_set 8 = .ok (.bipush (-101), 2) := by decide +kernel
theorem dX6_set_10 : decode cX6_set 10 = .ok (.ireturn, 1) := by decide +kernel
theorem dX6_set_11 : decode cX6_set 11 = .ok (.iload_n 2, 1) := by decide +kernel
theorem dX6_set_12 : decode cX6_set 12 = .ok (.iconst (-1), 1) := by decide +kernel
theorem dX6_set_13 : decode cX6_set 13 = .ok (.if_icmp .lt 9, 3) := by decide +kernel
theorem dX6_set_16 : decode cX6_set 16 = .ok (.iload_n 2, 1) := by decide +kernel
theorem dX6_set_17 : decode cX6_set 17 = .ok (.bipush 14, 2) := by decide +kernel
theorem dX6_set_19 : decode cX6_set 19 = .ok (.if_icmp .lt 6, 3) := by decide +kernel
theorem dX6_set_22 : decode cX6_set 22 = .ok (.bipush (-102), 2) := by decide +kernel
theorem dX6_set_24 : decode cX6_set 24 = .ok (.ireturn, 1) := by decide +kernel
theorem dX6_set_25 : decode cX6_set 25 = .ok (.aload_n 0, 1) := by decide +kernel
theorem dX6_set_26 : decode cX6_set 26 = .ok (.getfield 50, 3) := by decide +kernel
theorem dX6_set_29 : decode cX6_set 29 = .ok (.getfield 198, 3) := by decide +kernel
theorem dX6_set_32 : decode cX6_set 32 = .ok (.iload_n 1, 1) := by decide +kernel
theorem dX6_set_33 : decode cX6_set 33 = .ok (.iaload, 1) := by decide +kernel
theorem dX6_set_34 : decode cX6_set 34 = .ok (.istore_n 3, 1) := by decide +kernel
theorem dX6_set_35 : decode cX6_set 35 = .ok (.aload_n 0, 1) := by decide +kernel
theorem dX6_set_36 : decode cX6_set 36 = .ok (.getfield 50, 3) := by decide +kernel
theorem dX6_set_39 : decode cX6_set 39 = .ok (.getfield 198, 3) := by decide +kernel
theorem dX6_set_42 : decode cX6_set 42 = .ok (.iload_n 1, 1) := by decide +kernel
theorem dX6_set_43 : decode cX6_set 43 = .ok (.iload_n 2, 1) := by decide +kernel
theorem dX6_set_44 : decode cX6_set 44 = .ok (.iastore, 1) := by decide +kernel
theorem dX6_set_45 : decode cX6_set 45 = .ok (.iload_n 3, 1) := by decide +kernel
theorem dX6_set_46 : decode cX6_set 46 = .ok (.ireturn, 1) := by decide +kernel
theorem dX6_cell_0 : decode cX6_cell 0 = .ok (.iload_n 1, 1) := by decide +kernel
theorem dX6_cell_1 : decode cX6_cell 1 = .ok (.ifCond .lt 22, 3) := by decide +kernel
theorem dX6_cell_4 : decode cX6_cell 4 = .ok (.iload_n 1, 1) := by decide +kernel
theorem dX6_cell_5 : decode cX6_cell 5 = .ok (.aload_n 0, 1) := by decide +kernel
theorem dX6_cell_6 : decode cX6_cell 6 = .ok (.getfield 50, 3) := by decide +kernel
theorem dX6_cell_9 : decode cX6_cell 9 = .ok (.invokevirtual 122, 3) := by decide +kernel
theorem dX6_cell_12 : decode cX6_cell 12 = .ok (.if_icmp .ge 11, 3) := by decide +kernel
theorem dX6_cell_15 : decode cX6_cell 15 = .ok (.aload_n 0, 1) := by decide +kernel
theorem dX6_cell_16 : decode cX6_cell 16 = .ok (.iload_n 2, 1) := by decide +kernel
theorem dX6_cell_17 : decode cX6_cell 17 = .ok (.invokevirtual 154, 3) := by decide +kernel
theorem dX6_cell_20 : decode cX6_cell 20 = .ok (.ifCond .ne 6, 3) := by decide +kernel
theorem dX6_cell_23 : decode cX6_cell 23 = .ok (.bipush (-101), 2) := by decide +kernel
theorem dX6_cell_25 : decode cX6_cell 25 = .ok (.ireturn, 1) := by decide +kernel
theorem dX6_cell_26 : decode cX6_cell 26 = .ok (.iload_n 3, 1) := by decide +kernel
theorem dX6_cell_27 : decode cX6_cell 27 = .ok (.lookupswitch 63 #[(0, 25), (1, 42)], 25) := by decide +kernel
theorem dX6_cell_52 : decode cX6_cell 52 = .ok (.aload_n 0, 1) := by decide +kernel
theorem dX6_cell_53 : decode cX6_cell 53 = .ok (.getfield 50, 3) := by decide +kernel
theorem dX6_cell_56 : decode cX6_cell 56 = .ok (.aload_n 0, 1) := by decide +kernel
theorem dX6_cell_57 : decode cX6_cell 57 = .ok (.getfield 26, 3) := by decide +kernel
theorem dX6_cell_60 : decode cX6_cell 60 = .ok (.iload_n 1, 1) := by decide +kernel
theorem dX6_cell_61 : decode cX6_cell 61 = .ok (.iload_n 2, 1) := by decide +kernel
theorem dX6_cell_62 : decode cX6_cell 62 = .ok (.invokevirtual 125, 3) := by decide +kernel
theorem dX6_cell_65 : decode cX6_cell 65 = .ok (.invokestatic 173, 3) := by decide +kernel
theorem dX6_cell_68 : decode cX6_cell 68 = .ok (.ireturn, 1) := by decide +kernel
theorem dX6_cell_69 : decode cX6_cell 69 = .ok (.aload_n 0, 1) := by decide +kernel
theorem dX6_cell_70 : decode cX6_cell 70 = .ok (.getfield 50, 3) := by decide +kernel
theorem dX6_cell_73 : decode cX6_cell 73 = .ok (.aload_n 0, 1) := by decide +kernel
theorem dX6_cell_74 : decode cX6_cell 74 = .ok (.getfield 19, 3) := by decide +kernel
theorem dX6_cell_77 : decode cX6_cell 77 = .ok (.aload_n 0, 1) := by decide +kernel
theorem dX6_cell_78 : decode cX6_cell 78 = .ok (.getfield 26, 3) := by decide +kernel
theorem dX6_cell_81 : decode cX6_cell 81 = .ok (.iload_n 1, 1) := by decide +kernel
theorem dX6_cell_82 : decode cX6_cell 82 = .ok (.iload_n 2, 1) := by decide +kernel
theorem dX6_cell_83 : decode cX6_cell 83 = .ok (.invokevirtual 256, 3) := by decide +kernel
theorem dX6_cell_86 : decode cX6_cell 86 = .ok (.invokestatic 173, 3) := by decide +kernel
theorem dX6_cell_89 : decode cX6_cell 89 = .ok (.ireturn, 1) := by decide +kernel
theorem dX6_cell_90 : decode cX6_cell 90 = .ok (.bipush (-102), 2) := by decide +kernel
theorem dX6_cell_92 : decode cX6_cell 92 = .ok (.ireturn, 1) := by decide +kernel
theorem dX6_count_0 : decode cX6_count 0 = .ok (.iload_n 1, 1) := by decide +kernel
theorem dX6_count_1 : decode cX6_count 1 = .ok (.tableswitch 117 0 8 #[51, 59, 67, 75, 83, 91, 99, 107, 112], 51) := by decide +kernel
theorem dX6_count_52 : decode cX6_count 52 = .ok (.aload_n 0, 1) := by decide +kernel
theorem dX6_count_53 : decode cX6_count 53 = .ok (.getfield 19, 3) := by decide +kernel
theorem dX6_count_56 : decode cX6_count 56 = .ok (.getfield 72, 3) := by decide +kernel
theorem dX6_count_59 : decode cX6_count 59 = .ok (.ireturn, 1) := by decide +kernel
theorem dX6_count_60 : decode cX6_count 60 = .ok (.aload_n 0, 1) := by decide +kernel
theorem dX6_count_61 : decode cX6_count 61 = .ok (.getfield 19, 3) := by decide +kernel
theorem dX6_count_64 : decode cX6_count 64 = .ok (.invokevirtual 260, 3) := by decide +kernel
theorem dX6_count_67 : decode cX6_count 67 = .ok (.ireturn, 1) := by decide +kernel
theorem dX6_count_68 : decode cX6_count 68 = .ok (.aload_n 0, 1) := by decide +kernel
theorem dX6_count_69 : decode cX6_count 69 = .ok (.getfield 19, 3) := by decide +kernel
theorem dX6_count_72 : decode cX6_count 72 = .ok (.invokevirtual 263, 3) := by decide +kernel
theorem dX6_count_75 : decode cX6_count 75 = .ok (.ireturn, 1) := by decide +kernel
theorem dX6_count_76 : decode cX6_count 76 = .ok (.aload_n 0, 1) := by decide +kernel
theorem dX6_count_77 : decode cX6_count 77 = .ok (.getfield 83, 3) := by decide +kernel
theorem dX6_count_80 : decode cX6_count 80 = .ok (.invokestatic 204, 3) := by decide +kernel
theorem dX6_count_83 : decode cX6_count 83 = .ok (.ireturn, 1) := by decide +kernel
theorem dX6_count_84 : decode cX6_count 84 = .ok (.aload_n 0, 1) := by decide +kernel
theorem dX6_count_85 : decode cX6_count 85 = .ok (.getfield 26, 3) := by decide +kernel
theorem dX6_count_88 : decode cX6_count 88 = .ok (.getfield 132, 3) := by decide +kernel
theorem dX6_count_91 : decode cX6_count 91 = .ok (.ireturn, 1) := by decide +kernel
theorem dX6_count_92 : decode cX6_count 92 = .ok (.aload_n 0, 1) := by decide +kernel
theorem dX6_count_93 : decode cX6_count 93 = .ok (.getfield 50, 3) := by decide +kernel
theorem dX6_count_96 : decode cX6_count 96 = .ok (.invokevirtual 231, 3) := by decide +kernel
theorem dX6_count_99 : decode cX6_count 99 = .ok (.ireturn, 1) := by decide +kernel
theorem dX6_count_100 : decode cX6_count 100 = .ok (.aload_n 0, 1) := by decide +kernel
theorem dX6_count_101 : decode cX6_count 101 = .ok (.getfield 10, 3) := by decide +kernel
theorem dX6_count_104 : decode cX6_count 104 = .ok (.getfield 54, 3) := by decide +kernel
theorem dX6_count_107 : decode cX6_count 107 = .ok (.ireturn, 1) := by decide +kernel
theorem dX6_count_108 : decode cX6_count 108 = .ok (.aload_n 0, 1) := by decide +kernel
theorem dX6_count_109 : decode cX6_count 109 = .ok (.getfield 89, 3) := by decide +kernel
theorem dX6_count_112 : decode cX6_count 112 = .ok (.ireturn, 1) := by decide +kernel
theorem dX6_count_113 : decode cX6_count 113 = .ok (.aload_n 0, 1) := by decide +kernel
theorem dX6_count_114 : decode cX6_count 114 = .ok (.getfield 244, 3) := by decide +kernel
theorem dX6_count_117 : decode cX6_count 117 = .ok (.ireturn, 1) := by decide +kernel
theorem dX6_count_118 : decode cX6_count 118 = .ok (.bipush (-102), 2) := by decide +kernel
theorem dX6_count_120 : decode cX6_count 120 = .ok (.ireturn, 1) := by decide +kernel
theorem dX6_mix_0 : decode cX6_mix 0 = .ok (.ldc2_w 287, 3) := by decide +kernel
theorem dX6_mix_3 : decode cX6_mix 3 = .ok (.lload_n 0, 1) := by decide +kernel
theorem dX6_mix_4 : decode cX6_mix 4 = .ok (.lmul, 1) := by decide +kernel
theorem dX6_mix_5 : decode cX6_mix 5 = .ok (.iload_n 2, 1) := by decide +kernel
theorem dX6_mix_6 : decode cX6_mix 6 = .ok (.i2l, 1) := by decide +kernel
theorem dX6_mix_7 : decode cX6_mix 7 = .ok (.ladd, 1) := by decide +kernel
theorem dX6_mix_8 : decode cX6_mix 8 = .ok (.lreturn, 1) := by decide +kernel
theorem dX6_digestChannel_0 : decode cX6_digestChannel 0 = .ok (.lload_n 1, 1) := by decide +kernel
theorem dX6_digestChannel_1 : decode cX6_digestChannel 1 = .ok (.lstore_n 3, 1) := by decide +kernel
theorem dX6_digestChannel_2 : decode cX6_digestChannel 2 = .ok (.iconst 0, 1) := by decide +kernel
theorem dX6_digestChannel_3 : decode cX6_digestChannel 3 = .ok (.istore 5, 2) := by decide +kernel
theorem dX6_digestChannel_5 : decode cX6_digestChannel 5 = .ok (.iload 5, 2) := by decide +kernel
theorem dX6_digestChannel_7 : decode cX6_digestChannel 7 = .ok (.bipush 9, 2) := by decide +kernel
theorem dX6_digestChannel_9 : decode cX6_digestChannel 9 = .ok (.if_icmp .gt 20, 3) := by decide +kernel
theorem dX6_digestChannel_12 : decode cX6_digestChannel 12 = .ok (.lload_n 3, 1) := by decide +kernel
theorem dX6_digestChannel_13 : decode cX6_digestChannel 13 = .ok (.aload_n 0, 1) := by decide +kernel
theorem dX6_digestChannel_14 : decode cX6_digestChannel 14 = .ok (.iload 5, 2) := by decide +kernel
theorem dX6_digestChannel_16 : decode cX6_digestChannel 16 = .ok (.invokevirtual 289, 3) := by decide +kernel
theorem dX6_digestChannel_19 : decode cX6_digestChannel 19 = .ok (.invokestatic 280, 3) := by decide +kernel
theorem dX6_digestChannel_22 : decode cX6_digestChannel 22 = .ok (.lstore_n 3, 1) := by decide +kernel
theorem dX6_digestChannel_23 : decode cX6_digestChannel 23 = .ok (.iinc 5 1, 3) := by decide +kernel
theorem dX6_digestChannel_26 : decode cX6_digestChannel 26 = .ok (.goto (-21), 3) := by decide +kernel
theorem dX6_digestChannel_29 : decode cX6_digestChannel 29 = .ok (.iconst 0, 1) := by decide +kernel
theorem dX6_digestChannel_30 : decode cX6_digestChannel 30 = .ok (.istore 5, 2) := by decide +kernel
theorem dX6_digestChannel_32 : decode cX6_digestChannel 32 = .ok (.iload 5, 2) := by decide +kernel
theorem dX6_digestChannel_34 : decode cX6_digestChannel 34 = .ok (.aload_n 0, 1) := by decide +kernel
theorem dX6_digestChannel_35 : decode cX6_digestChannel 35 = .ok (.getfield 19, 3) := by decide +kernel
theorem dX6_digestChannel_38 : decode cX6_digestChannel 38 = .ok (.getfield 72, 3) := by decide +kernel
theorem dX6_digestChannel_41 : decode cX6_digestChannel 41 = .ok (.if_icmp .ge 39, 3) := by decide +kernel
theorem dX6_digestChannel_44 : decode cX6_digestChannel 44 = .ok (.lload_n 3, 1) := by decide +kernel
theorem dX6_digestChannel_45 : decode cX6_digestChannel 45 = .ok (.aload_n 0, 1) := by decide +kernel
theorem dX6_digestChannel_46 : decode cX6_digestChannel 46 = .ok (.getfield 19, 3) := by decide +kernel
theorem dX6_digestChannel_49 : decode cX6_digestChannel 49 = .ok (.iload 5, 2) := by decide +kernel
theorem dX6_digestChannel_51 : decode cX6_digestChannel 51 = .ok (.iconst 0, 1) := by decide +kernel
theorem dX6_digestChannel_52 : decode cX6_digestChannel 52 = .ok (.invokevirtual 160, 3) := by decide +kernel
theorem dX6_digestChannel_55 : decode cX6_digestChannel 55 = .ok (.invokestatic 280, 3) := by decide +kernel
theorem dX6_digestChannel_58 : decode cX6_digestChannel 58 = .ok (.lstore_n 3, 1) := by decide +kernel
theorem dX6_digestChannel_59 : decode cX6_digestChannel 59 = .ok (.lload_n 3, 1) := by decide +kernel
theorem dX6_digestChannel_60 : decode cX6_digestChannel 60 = .ok (.aload_n 0, 1) := by decide +kernel
theorem dX6_digestChannel_61 : decode cX6_digestChannel 61 = .ok (.getfield 19, 3) := by decide +kernel
theorem dX6_digestChannel_64 : decode cX6_digestChannel 64 = .ok (.iload 5, 2) := by decide +kernel
theorem dX6_digestChannel_66 : decode cX6_digestChannel 66 = .ok (.iconst 1, 1) := by decide +kernel
theorem dX6_digestChannel_67 : decode cX6_digestChannel 67 = .ok (.invokevirtual 160, 3) := by decide +kernel
theorem dX6_digestChannel_70 : decode cX6_digestChannel 70 = .ok (.invokestatic 280, 3) := by decide +kernel
theorem dX6_digestChannel_73 : decode cX6_digestChannel 73 = .ok (.lstore_n 3, 1) := by decide +kernel
theorem dX6_digestChannel_74 : decode cX6_digestChannel 74 = .ok (.iinc 5 1, 3) := by decide +kernel
theorem dX6_digestChannel_77 : decode cX6_digestChannel 77 = .ok (.goto (-45), 3) := by decide +kernel
theorem dX6_digestChannel_80 : decode cX6_digestChannel 80 = .ok (.iconst 0, 1) := by decide +kernel
theorem dX6_digestChannel_81 : decode cX6_digestChannel 81 = .ok (.istore 5, 2) := by decide +kernel
theorem dX6_digestChannel_83 : decode cX6_digestChannel 83 = .ok (.iload 5, 2) := by decide +kernel
theorem dX6_digestChannel_85 : decode cX6_digestChannel 85 = .ok (.bipush 6, 2) := by decide +kernel
theorem dX6_digestChannel_87 : decode cX6_digestChannel 87 = .ok (.if_icmp .ge 28, 3) := by decide +kernel
theorem dX6_digestChannel_90 : decode cX6_digestChannel 90 = .ok (.lload_n 3, 1) := by decide +kernel
theorem dX6_digestChannel_91 : decode cX6_digestChannel 91 = .ok (.aload_n 0, 1) := by decide +kernel
theorem dX6_digestChannel_92 : decode cX6_digestChannel 92 = .ok (.iload 5, 2) := by decide +kernel
theorem dX6_digestChannel_94 : decode cX6_digestChannel 94 = .ok (.invokevirtual 179, 3) := by decide +kernel
theorem dX6_digestChannel_97 : decode cX6_digestChannel 97 = .ok (.ifCond .eq 7, 3) := by decide +kernel
theorem dX6_digestChannel_100 : decode cX6_digestChannel 100 = .ok (.iconst 1, 1) := by decide +kernel
theorem dX6_digestChannel_101 : decode cX6_digestChannel 101 = .ok (.goto 4, 3) := by decide +kernel
theorem dX6_digestChannel_104 : decode cX6_digestChannel 104 = .ok (.iconst 0, 1) := by decide +kernel
theorem dX6_digestChannel_105 : decode cX6_digestChannel 105 = .ok (.invokestatic 280, 3) := by decide +kernel
theorem dX6_digestChannel_108 : decode cX6_digestChannel 108 = .ok (.lstore_n 3, 1) := by decide +kernel
theorem dX6_digestChannel_109 : decode cX6_digestChannel 109 = .ok (.iinc 5 1, 3) := by decide +kernel
theorem dX6_digestChannel_112 : decode cX6_digestChannel 112 = .ok (.goto (-29), 3) := by decide +kernel
theorem dX6_digestChannel_115 : decode cX6_digestChannel 115 = .ok (.lload_n 3, 1) := by decide +kernel
theorem dX6_digestChannel_116 : decode cX6_digestChannel 116 = .ok (.lreturn, 1) := by decide +kernel
theorem dX6_digestSegments_0 : decode cX6_digestSegments 0 = .ok (.lload_n 1, 1) := by decide +kernel
theorem dX6_digestSegments_1 : decode cX6_digestSegments 1 = .ok (.lstore_n 3, 1) := by decide +kernel
theorem dX6_digestSegments_2 : decode cX6_digestSegments 2 = .ok (.iconst 0, 1) := by decide +kernel
theorem dX6_digestSegments_3 : decode cX6_digestSegments 3 = .ok (.istore 5, 2) := by decide +kernel
theorem dX6_digestSegments_5 : decode cX6_digestSegments 5 = .ok (.iload 5, 2) := by decide +kernel
theorem dX6_digestSegments_7 : decode cX6_digestSegments 7 = .ok (.aload_n 0, 1) := by decide +kernel
theorem dX6_digestSegments_8 : decode cX6_digestSegments 8 = .ok (.getfield 26, 3) := by decide +kernel
theorem dX6_digestSegments_11 : decode cX6_digestSegments 11 = .ok (.getfield 132, 3) := by decide +kernel
theorem dX6_digestSegments_14 : decode cX6_digestSegments 14 = .ok (.if_icmp .ge 38, 3) := by decide +kernel
theorem dX6_digestSegments_17 : decode cX6_digestSegments 17 = .ok (.iconst 0, 1) := by decide +kernel
theorem dX6_digestSegments_18 : decode cX6_digestSegments 18 = .ok (.istore 6, 2) := by decide +kernel
theorem dX6_digestSegments_20 : decode cX6_digestSegments 20 = .ok (.iload 6, 2) := by decide +kernel
theorem dX6_digestSegments_22 : decode cX6_digestSegments 22 = .ok (.bipush 6, 2) := by decide +kernel
theorem dX6_digestSegments_24 : decode cX6_digestSegments 24 = .ok (.if_icmp .gt 22, 3) := by decide +kernel
theorem dX6_digestSegments_27 : decode cX6_digestSegments 27 = .ok (.lload_n 3, 1) := by decide +kernel
theorem dX6_digestSegments_28 : decode cX6_digestSegments 28 = .ok (.aload_n 0, 1) := by decide +kernel
theorem dX6_digestSegments_29 : decode cX6_digestSegments 29 = .ok (.iload 5, 2) := by decide +kernel
theorem dX6_digestSegments_31 : decode cX6_digestSegments 31 = .ok (.iload 6, 2) := by decide +kernel
theorem dX6_digestSegments_33 : decode cX6_digestSegments 33 = .ok (.invokevirtual 292, 3) := by decide +kernel
theorem dX6_digestSegments_36 : decode cX6_digestSegments 36 = .ok (.invokestatic 280, 3) := by decide +kernel
theorem dX6_digestSegments_39 : decode cX6_digestSegments 39 = .ok (.lstore_n 3, 1) := by decide +kernel
theorem dX6_digestSegments_40 : decode cX6_digestSegments 40 = .ok (.iinc 6 1, 3) := by decide +kernel
theorem dX6_digestSegments_43 : decode cX6_digestSegments 43 = .ok (.goto (-23), 3) := by decide +kernel
theorem dX6_digestSegments_46 : decode cX6_digestSegments 46 = .ok (.iinc 5 1, 3) := by decide +kernel
theorem dX6_digestSegments_49 : decode cX6_digestSegments 49 = .ok (.goto (-44), 3) := by decide +kernel
theorem dX6_digestSegments_52 : decode cX6_digestSegments 52 = .ok (.iconst 0, 1) := by decide +kernel
theorem dX6_digestSegments_53 : decode cX6_digestSegments 53 = .ok (.istore 5, 2) := by decide +kernel
theorem dX6_digestSegments_55 : decode cX6_digestSegments 55 = .ok (.iload 5, 2) := by decide +kernel
theorem dX6_digestSegments_57 : decode cX6_digestSegments 57 = .ok (.aload_n 0, 1) := by decide +kernel
theorem dX6_digestSegments_58 : decode cX6_digestSegments 58 = .ok (.getfield 36, 3) := by decide +kernel
theorem dX6_digestSegments_61 : decode cX6_digestSegments 61 = .ok (.getfield 141, 3) := by decide +kernel
theorem dX6_digestSegments_64 : decode cX6_digestSegments 64 = .ok (.if_icmp .ge 20, 3) := by decide +kernel
theorem dX6_digestSegments_67 : decode cX6_digestSegments 67 = .ok (.lload_n 3, 1) := by decide +kernel
theorem dX6_digestSegments_68 : decode cX6_digestSegments 68 = .ok (.aload_n 0, 1) := by decide +kernel
theorem dX6_digestSegments_69 : decode cX6_digestSegments 69 = .ok (.iload 5, 2) := by decide +kernel
theorem dX6_digestSegments_71 : decode cX6_digestSegments 71 = .ok (.invokevirtual 294, 3) := by decide +kernel
theorem dX6_digestSegments_74 : decode cX6_digestSegments 74 = .ok (.invokestatic 280, 3) := by decide +kernel
theorem dX6_digestSegments_77 : decode cX6_digestSegments 77 = .ok (.lstore_n 3, 1) := by decide +kernel
theorem dX6_digestSegments_78 : decode cX6_digestSegments 78 = .ok (.iinc 5 1, 3) := by decide +kernel
theorem dX6_digestSegments_81 : decode cX6_digestSegments 81 = .ok (.goto (-26), 3) := by decide +kernel
theorem dX6_digestSegments_84 : decode cX6_digestSegments 84 = .ok (.iconst 0, 1) := by decide +kernel
theorem dX6_digestSegments_85 : decode cX6_digestSegments 85 = .ok (.istore 5, 2) := by decide +kernel
theorem dX6_digestSegments_87 : decode cX6_digestSegments 87 = .ok (.iload 5, 2) := by decide +kernel
theorem dX6_digestSegments_89 : decode cX6_digestSegments 89 = .ok (.aload_n 0, 1) := by decide +kernel
theorem dX6_digestSegments_90 : decode cX6_digestSegments 90 = .ok (.getfield 43, 3) := by decide +kernel
theorem dX6_digestSegments_93 : decode cX6_digestSegments 93 = .ok (.getfield 145, 3) := by decide +kernel
theorem dX6_digestSegments_96 : decode cX6_digestSegments 96 = .ok (.if_icmp .ge 20, 3) := by decide +kernel
theorem dX6_digestSegments_99 : decode cX6_digestSegments 99 = .ok (.lload_n 3, 1) := by decide +kernel
theorem dX6_digestSegments_100 : decode cX6_digestSegments 100 = .ok (.aload_n 0, 1) := by decide +kernel
theorem dX6_digestSegments_101 : decode cX6_digestSegments 101 = .ok (.iload 5, 2) := by decide +kernel
theorem dX6_digestSegments_103 : decode cX6_digestSegments 103 = .ok (.invokevirtual 297, 3) := by decide +kernel
theorem dX6_digestSegments_106 : decode cX6_digestSegments 106 = .ok (.invokestatic 280, 3) := by decide +kernel
theorem dX6_digestSegments_109 : decode cX6_digestSegments 109 = .ok (.lstore_n 3, 1) := by decide +kernel
theorem dX6_digestSegments_110 : decode cX6_digestSegments 110 = .ok (.iinc 5 1, 3) := by decide +kernel
theorem dX6_digestSegments_113 : decode cX6_digestSegments 113 = .ok (.goto (-26), 3) := by decide +kernel
theorem dX6_digestSegments_116 : decode cX6_digestSegments 116 = .ok (.lload_n 3, 1) := by decide +kernel
theorem dX6_digestSegments_117 : decode cX6_digestSegments 117 = .ok (.lreturn, 1) := by decide +kernel
theorem dX6_digestPlan_0 : decode cX6_digestPlan 0 = .ok (.lload_n 1, 1) := by decide +kernel
theorem dX6_digestPlan_1 : decode cX6_digestPlan 1 = .ok (.lstore_n 3, 1) := by decide +kernel
theorem dX6_digestPlan_2 : decode cX6_digestPlan 2 = .ok (.aload_n 0, 1) := by decide +kernel
theorem dX6_digestPlan_3 : decode cX6_digestPlan 3 = .ok (.getfield 50, 3) := by decide +kernel
theorem dX6_digestPlan_6 : decode cX6_digestPlan 6 = .ok (.invokevirtual 122, 3) := by decide +kernel
theorem dX6_digestPlan_9 : decode cX6_digestPlan 9 = .ok (.istore 5, 2) := by decide +kernel
theorem dX6_digestPlan_11 : decode cX6_digestPlan 11 = .ok (.iload 5, 2) := by decide +kernel
theorem dX6_digestPlan_13 : decode cX6_digestPlan 13 = .ok (.aload_n 0, 1) := by decide +kernel
theorem dX6_digestPlan_14 : decode cX6_digestPlan 14 = .ok (.getfield 19, 3) := by decide +kernel
theorem dX6_digestPlan_17 : decode cX6_digestPlan 17 = .ok (.getfield 72, 3) := by decide +kernel
theorem dX6_digestPlan_20 : decode cX6_digestPlan 20 = .ok (.iconst 1, 1) := by decide +kernel
theorem dX6_digestPlan_21 : decode cX6_digestPlan 21 = .ok (.iadd, 1) := by decide +kernel
theorem dX6_digestPlan_22 : decode cX6_digestPlan 22 = .ok (.imul, 1) := by decide +kernel
theorem dX6_digestPlan_23 : decode cX6_digestPlan 23 = .ok (.iconst 1, 1) := by decide +kernel
theorem dX6_digestPlan_24 : decode cX6_digestPlan 24 = .ok (.isub, 1) := by decide +kernel
theorem dX6_digestPlan_25 : decode cX6_digestPlan 25 = .ok (.istore 6, 2) := by decide +kernel
theorem dX6_digestPlan_27 : decode cX6_digestPlan 27 = .ok (.iconst 0, 1) := by decide +kernel
theorem dX6_digestPlan_28 : decode cX6_digestPlan 28 = .ok (.istore 7, 2) := by decide +kernel
theorem dX6_digestPlan_30 : decode cX6_digestPlan 30 = .ok (.iload 7, 2) := by decide +kernel
theorem dX6_digestPlan_32 : decode cX6_digestPlan 32 = .ok (.iload 6, 2) := by decide +kernel
theorem dX6_digestPlan_34 : decode cX6_digestPlan 34 = .ok (.if_icmp .ge 20, 3) := by decide +kernel
theorem dX6_digestPlan_37 : decode cX6_digestPlan 37 = .ok (.lload_n 3, 1) := by decide +kernel
theorem dX6_digestPlan_38 : decode cX6_digestPlan 38 = .ok (.aload_n 0, 1) := by decide +kernel
theorem dX6_digestPlan_39 : decode cX6_digestPlan 39 = .ok (.iload 7, 2) := by decide +kernel
theorem dX6_digestPlan_41 : decode cX6_digestPlan 41 = .ok (.invokevirtual 300, 3) := by decide +kernel
theorem dX6_digestPlan_44 : decode cX6_digestPlan 44 = .ok (.invokestatic 280, 3) := by decide +kernel
theorem dX6_digestPlan_47 : decode cX6_digestPlan 47 = .ok (.lstore_n 3, 1) := by decide +kernel
theorem dX6_digestPlan_48 : decode cX6_digestPlan 48 = .ok (.iinc 7 1, 3) := by decide +kernel
theorem dX6_digestPlan_51 : decode cX6_digestPlan 51 = .ok (.goto (-21), 3) := by decide +kernel
theorem dX6_digestPlan_54 : decode cX6_digestPlan 54 = .ok (.iconst 0, 1) := by decide +kernel
theorem dX6_digestPlan_55 : decode cX6_digestPlan 55 = .ok (.istore 7, 2) := by decide +kernel
theorem dX6_digestPlan_57 : decode cX6_digestPlan 57 = .ok (.iload 7, 2) := by decide +kernel
theorem dX6_digestPlan_59 : decode cX6_digestPlan 59 = .ok (.iload 5, 2) := by decide +kernel
theorem dX6_digestPlan_61 : decode cX6_digestPlan 61 = .ok (.if_icmp .ge 44, 3) := by decide +kernel
theorem dX6_digestPlan_64 : decode cX6_digestPlan 64 = .ok (.iconst 0, 1) := by decide +kernel
theorem dX6_digestPlan_65 : decode cX6_digestPlan 65 = .ok (.istore 8, 2) := by decide +kernel
theorem dX6_digestPlan_67 : decode cX6_digestPlan 67 = .ok (.iload 8, 2) := by decide +kernel
theorem dX6_digestPlan_69 : decode cX6_digestPlan 69 = .ok (.aload_n 0, 1) := by decide +kernel
theorem dX6_digestPlan_70 : decode cX6_digestPlan 70 = .ok (.getfield 19, 3) := by decide +kernel
theorem dX6_digestPlan_73 : decode cX6_digestPlan 73 = .ok (.getfield 72, 3) := by decide +kernel
theorem dX6_digestPlan_76 : decode cX6_digestPlan 76 = .ok (.if_icmp .ge 23, 3) := by decide +kernel
theorem dX6_digestPlan_79 : decode cX6_digestPlan 79 = .ok (.lload_n 3, 1) := by decide +kernel
theorem dX6_digestPlan_80 : decode cX6_digestPlan 80 = .ok (.aload_n 0, 1) := by decide +kernel
theorem dX6_digestPlan_81 : decode cX6_digestPlan 81 = .ok (.iload 7, 2) := by decide +kernel
theorem dX6_digestPlan_83 : decode cX6_digestPlan 83 = .ok (.iload 8, 2) := by decide +kernel
theorem dX6_digestPlan_85 : decode cX6_digestPlan 85 = .ok (.iconst 1, 1) := by decide +kernel
theorem dX6_digestPlan_86 : decode cX6_digestPlan 86 = .ok (.invokevirtual 303, 3) := by decide +kernel
theorem dX6_digestPlan_89 : decode cX6_digestPlan 89 = .ok (.invokestatic 280, 3) := by decide +kernel
theorem dX6_digestPlan_92 : decode cX6_digestPlan 92 = .ok (.lstore_n 3, 1) := by decide +kernel
theorem dX6_digestPlan_93 : decode cX6_digestPlan 93 = .ok (.iinc 8 1, 3) := by decide +kernel
theorem dX6_digestPlan_96 : decode cX6_digestPlan 96 = .ok (.goto (-29), 3) := by decide +kernel
theorem dX6_digestPlan_99 : decode cX6_digestPlan 99 = .ok (.iinc 7 1, 3) := by decide +kernel
theorem dX6_digestPlan_102 : decode cX6_digestPlan 102 = .ok (.goto (-45), 3) := by decide +kernel
theorem dX6_digestPlan_105 : decode cX6_digestPlan 105 = .ok (.lload_n 3, 1) := by decide +kernel
theorem dX6_digestPlan_106 : decode cX6_digestPlan 106 = .ok (.lreturn, 1) := by decide +kernel
theorem dX6_digest_0 : decode cX6_digest 0 = .ok (.ldc2_w 265, 3) := by decide +kernel
theorem dX6_digest_3 : decode cX6_digest 3 = .ok (.lstore_n 1, 1) := by decide +kernel
theorem dX6_digest_4 : decode cX6_digest 4 = .ok (.aload_n 0, 1) := by decide +kernel
theorem dX6_digest_5 : decode cX6_digest 5 = .ok (.invokevirtual 118, 3) := by decide +kernel
theorem dX6_digest_8 : decode cX6_digest 8 = .ok (.ifCond .eq 21, 3) := by decide +kernel
theorem dX6_digest_11 : decode cX6_digest 11 = .ok (.aload_n 0, 1) := by decide +kernel
theorem dX6_digest_12 : decode cX6_digest 12 = .ok (.lload_n 1, 1) := by decide +kernel
theorem dX6_digest_13 : decode cX6_digest 13 = .ok (.invokevirtual 267, 3) := by decide +kernel
theorem dX6_digest_16 : decode cX6_digest 16 = .ok (.lstore_n 1, 1) := by decide +kernel
theorem dX6_digest_17 : decode cX6_digest 17 = .ok (.aload_n 0, 1) := by decide +kernel
theorem dX6_digest_18 : decode cX6_digest 18 = .ok (.lload_n 1, 1) := by decide +kernel
theorem dX6_digest_19 : decode cX6_digest 19 = .ok (.invokevirtual 271, 3) := by decide +kernel
theorem dX6_digest_22 : decode cX6_digest 22 = .ok (.lstore_n 1, 1) := by decide +kernel
theorem dX6_digest_23 : decode cX6_digest 23 = .ok (.aload_n 0, 1) := by decide +kernel
theorem dX6_digest_24 : decode cX6_digest 24 = .ok (.lload_n 1, 1) := by decide +kernel
theorem dX6_digest_25 : decode cX6_digest 25 = .ok (.invokevirtual 274, 3) := by decide +kernel
theorem dX6_digest_28 : decode cX6_digest 28 = .ok (.lstore_n 1, 1) := by decide +kernel
theorem dX6_digest_29 : decode cX6_digest 29 = .ok (.iconst 0, 1) := by decide +kernel
theorem dX6_digest_30 : decode cX6_digest 30 = .ok (.istore_n 3, 1) := by decide +kernel
theorem dX6_digest_31 : decode cX6_digest 31 = .ok (.iload_n 3, 1) := by decide +kernel
theorem dX6_digest_32 : decode cX6_digest 32 = .ok (.aload_n 0, 1) := by decide +kernel
theorem dX6_digest_33 : decode cX6_digest 33 = .ok (.getfield 10, 3) := by decide +kernel
theorem dX6_digest_36 : decode cX6_digest 36 = .ok (.getfield 54, 3) := by decide +kernel
theorem dX6_digest_39 : decode cX6_digest 39 = .ok (.if_icmp .ge 23, 3) := by decide +kernel
theorem dX6_digest_42 : decode cX6_digest 42 = .ok (.lload_n 1, 1) := by decide +kernel
theorem dX6_digest_43 : decode cX6_digest 43 = .ok (.aload_n 0, 1) := by decide +kernel
theorem dX6_digest_44 : decode cX6_digest 44 = .ok (.getfield 10, 3) := by decide +kernel
theorem dX6_digest_47 : decode cX6_digest 47 = .ok (.getfield 277, 3) := by decide +kernel
theorem dX6_digest_50 : decode cX6_digest 50 = .ok (.iload_n 3, 1) := by decide +kernel
theorem dX6_digest_51 : decode cX6_digest 51 = .ok (.iaload, 1) := by decide +kernel
theorem dX6_digest_52 : decode cX6_digest 52 = .ok (.invokestatic 280, 3) := by decide +kernel
theorem dX6_digest_55 : decode cX6_digest 55 = .ok (.lstore_n 1, 1) := by decide +kernel
theorem dX6_digest_56 : decode cX6_digest 56 = .ok (.iinc 3 1, 3) := by decide +kernel
theorem dX6_digest_59 : decode cX6_digest 59 = .ok (.goto (-28), 3) := by decide +kernel
theorem dX6_digest_62 : decode cX6_digest 62 = .ok (.iconst 0, 1) := by decide +kernel
theorem dX6_digest_63 : decode cX6_digest 63 = .ok (.istore_n 3, 1) := by decide +kernel
theorem dX6_digest_64 : decode cX6_digest 64 = .ok (.iload_n 3, 1) := by decide +kernel
theorem dX6_digest_65 : decode cX6_digest 65 = .ok (.bipush 8, 2) := by decide +kernel
theorem dX6_digest_67 : decode cX6_digest 67 = .ok (.if_icmp .gt 19, 3) := by decide +kernel
theorem dX6_digest_70 : decode cX6_digest 70 = .ok (.lload_n 1, 1) := by decide +kernel
theorem dX6_digest_71 : decode cX6_digest 71 = .ok (.aload_n 0, 1) := by decide +kernel
theorem dX6_digest_72 : decode cX6_digest 72 = .ok (.iload_n 3, 1) := by decide +kernel
theorem dX6_digest_73 : decode cX6_digest 73 = .ok (.invokevirtual 284, 3) := by decide +kernel
theorem dX6_digest_76 : decode cX6_digest 76 = .ok (.invokestatic 280, 3) := by decide +kernel
theorem dX6_digest_79 : decode cX6_digest 79 = .ok (.lstore_n 1, 1) := by decide +kernel
theorem dX6_digest_80 : decode cX6_digest 80 = .ok (.iinc 3 1, 3) := by decide +kernel
theorem dX6_digest_83 : decode cX6_digest 83 = .ok (.goto (-19), 3) := by decide +kernel
theorem dX6_digest_86 : decode cX6_digest 86 = .ok (.lload_n 1, 1) := by decide +kernel
theorem dX6_digest_87 : decode cX6_digest 87 = .ok (.lreturn, 1) := by decide +kernel
