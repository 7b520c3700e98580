theorem dX7_levelOf_7 : decode cX7_levelOf 7 = .ok (.if_icmp .ge 16, 3) := by decide +kernel
theorem dX7_levelOf_10 : decode cX7_levelOf 10 = .ok (.aload_n 0, 1) := by decide +kernel
theorem dX7_levelOf_11 : decode cX7_levelOf 11 = .ok (.getfield 40, 3) := by decide +kernel
theorem dX7_levelOf_14 : decode cX7_levelOf 14 = .ok (.iload_n 2, 1) := by decide +kernel
theorem dX7_levelOf_15 : decode cX7_levelOf 15 = .ok (.iconst 0, 1) := by decide +kernel
theorem dX7_levelOf_16 : decode cX7_levelOf 16 = .ok (.iastore, 1) := by decide +kernel
theorem dX7_levelOf_17 : decode cX7_levelOf 17 = .ok (.iinc 2 1, 3) := by decide +kernel
theorem dX7_levelOf_20 : decode cX7_levelOf 20 = .ok (.goto (-18), 3) := by decide +kernel
theorem dX7_levelOf_23 : decode cX7_levelOf 23 = .ok (.iconst 0, 1) := by decide +kernel
theorem dX7_levelOf_24 : decode cX7_levelOf 24 = .ok (.istore_n 2, 1) := by decide +kernel
theorem dX7_levelOf_25 : decode cX7_levelOf 25 = .ok (.iload_n 2, 1) := by decide +kernel
theorem dX7_levelOf_26 : decode cX7_levelOf 26 = .ok (.aload_n 0, 1) := by decide +kernel
theorem dX7_levelOf_27 : decode cX7_levelOf 27 = .ok (.getfield 130, 3) := by decide +kernel
theorem dX7_levelOf_30 : decode cX7_levelOf 30 = .ok (.if_icmp .ge 110, 3) := by decide +kernel
theorem dX7_levelOf_33 : decode cX7_levelOf 33 = .ok (.iconst 0, 1) := by decide +kernel
theorem dX7_levelOf_34 : decode cX7_levelOf 34 = .ok (.istore_n 3, 1) := by decide +kernel
theorem dX7_levelOf_35 : decode cX7_levelOf 35 = .ok (.iload_n 3, 1) := by decide +kernel
theorem dX7_levelOf_36 : decode cX7_levelOf 36 = .ok (.aload_n 0, 1) := by decide +kernel
theorem dX7_levelOf_37 : decode cX7_levelOf 37 = .ok (.getfield 130, 3) := by decide +kernel
theorem dX7_levelOf_40 : decode cX7_levelOf 40 = .ok (.if_icmp .ge 94, 3) := by decide +kernel
theorem dX7_levelOf_43 : decode cX7_levelOf 43 = .ok (.iconst 0, 1) := by decide +kernel
theorem dX7_levelOf_44 : decode cX7_levelOf 44 = .ok (.istore 4, 2) := by decide +kernel
theorem dX7_levelOf_46 : decode cX7_levelOf 46 = .ok (.iload 4, 2) := by decide +kernel
theorem dX7_levelOf_48 : decode cX7_levelOf 48 = .ok (.aload_n 0, 1) := by decide +kernel
theorem dX7_levelOf_49 : decode cX7_levelOf 49 = .ok (.getfield 130, 3) := by decide +kernel
theorem dX7_levelOf_52 : decode cX7_levelOf 52 = .ok (.if_icmp .ge 76, 3) := by decide +kernel
theorem dX7_levelOf_55 : decode cX7_levelOf 55 = .ok (.aload_n 0, 1) := by decide +kernel
theorem dX7_levelOf_56 : decode cX7_levelOf 56 = .ok (.getfield 25, 3) := by decide +kernel
theorem dX7_levelOf_59 : decode cX7_levelOf 59 = .ok (.iload_n 3, 1) := by decide +kernel
theorem dX7_levelOf_60 : decode cX7_levelOf 60 = .ok (.iaload, 1) := by decide +kernel
theorem dX7_levelOf_61 : decode cX7_levelOf 61 = .ok (.iload 4, 2) := by decide +kernel
theorem dX7_levelOf_63 : decode cX7_levelOf 63 = .ok (.invokestatic 43, 3) := by decide +kernel
theorem dX7_levelOf_66 : decode cX7_levelOf 66 = .ok (.ifCond .eq 23, 3) := by decide +kernel
theorem dX7_levelOf_69 : decode cX7_levelOf 69 = .ok (.aload_n 0, 1) := by decide +kernel
theorem dX7_levelOf_70 : decode cX7_levelOf 70 = .ok (.getfield 40, 3) := by decide +kernel
theorem dX7_levelOf_73 : decode cX7_levelOf 73 = .ok (.iload 4, 2) := by decide +kernel
theorem dX7_levelOf_75 : decode cX7_levelOf 75 = .ok (.iaload, 1) := by decide +kernel
theorem dX7_levelOf_76 : decode cX7_levelOf 76 = .ok (.aload_n 0, 1) := by decide +kernel
theorem dX7_levelOf_77 : decode cX7_levelOf 77 = .ok (.getfield 40, 3) := by decide +kernel
theorem dX7_levelOf_80 : decode cX7_levelOf 80 = .ok (.iload_n 3, 1) := by decide +kernel
theorem dX7_levelOf_81 : decode cX7_levelOf 81 = .ok (.iaload, 1) := by decide +kernel
theorem dX7_levelOf_82 : decode cX7_levelOf 82 = .ok (.if_icmp .gt 7, 3) := by decide +kernel
theorem dX7_levelOf_85 : decode cX7_levelOf 85 = .ok (.iconst 1, 1) := by decide +kernel
theorem dX7_levelOf_86 : decode cX7_levelOf 86 = .ok (.goto 4, 3) := by decide +kernel
theorem dX7_levelOf_89 : decode cX7_levelOf 89 = .ok (.iconst 0, 1) := by decide +kernel
theorem dX7_levelOf_90 : decode cX7_levelOf 90 = .ok (.istore 5, 2) := by decide +kernel
theorem dX7_levelOf_92 : decode cX7_levelOf 92 = .ok (.aload_n 0, 1) := by decide +kernel
theorem dX7_levelOf_93 : decode cX7_levelOf 93 = .ok (.getfield 40, 3) := by decide +kernel
theorem dX7_levelOf_96 : decode cX7_levelOf 96 = .ok (.iload 4, 2) := by decide +kernel
theorem dX7_levelOf_98 : decode cX7_levelOf 98 = .ok (.iload 5, 2) := by decide +kernel
theorem dX7_levelOf_100 : decode cX7_levelOf 100 = .ok (.ifCond .eq 14, 3) := by decide +kernel
theorem dX7_levelOf_103 : decode cX7_levelOf 103 = .ok (.aload_n 0, 1) := by decide +kernel
theorem dX7_levelOf_104 : decode cX7_levelOf 104 = .ok (.getfield 40, 3) := by decide +kernel
theorem dX7_levelOf_107 : decode cX7_levelOf 107 = .ok (.iload_n 3, 1) := by decide +kernel
theorem dX7_levelOf_108 : decode cX7_levelOf 108 = .ok (.iaload, 1) := by decide +kernel
theorem dX7_levelOf_109 : decode cX7_levelOf 109 = .ok (.iconst 1, 1) := by decide +kernel
theorem dX7_levelOf_110 : decode cX7_levelOf 110 = .ok (.iadd, 1) := by decide +kernel
theorem dX7_levelOf_111 : decode cX7_levelOf 111 = .ok (.goto 10, 3) := by decide +kernel
theorem dX7_levelOf_114 : decode cX7_levelOf 114 = .ok (.aload_n 0, 1) := by decide +kernel
theorem dX7_levelOf_115 : decode cX7_levelOf 115 = .ok (.getfield 40, 3) := by decide +kernel
theorem dX7_levelOf_118 : decode cX7_levelOf 118 = .ok (.iload 4, 2) := by decide +kernel
theorem dX7_levelOf_120 : decode cX7_levelOf 120 = .ok (.iaload, 1) := by decide +kernel
theorem dX7_levelOf_121 : decode cX7_levelOf 121 = .ok (.iastore, 1) := by decide +kernel
theorem dX7_levelOf_122 : decode cX7_levelOf 122 = .ok (.iinc 4 1, 3) := by decide +kernel
theorem dX7_levelOf_125 : decode cX7_levelOf 125 = .ok (.goto (-79), 3) := by decide +kernel
theorem dX7_levelOf_128 : decode cX7_levelOf 128 = .ok (.iinc 3 1, 3) := by decide +kernel
theorem dX7_levelOf_131 : decode cX7_levelOf 131 = .ok (.goto (-96), 3) := by decide +kernel
theorem dX7_levelOf_134 : decode cX7_levelOf 134 = .ok (.iinc 2 1, 3) := by decide +kernel
theorem dX7_levelOf_137 : decode cX7_levelOf 137 = .ok (.goto (-112), 3) := by decide +kernel
theorem dX7_levelOf_140 : decode cX7_levelOf 140 = .ok (.aload_n 0, 1) := by decide +kernel
theorem dX7_levelOf_141 : decode cX7_levelOf 141 = .ok (.getfield 40, 3) := by decide +kernel
theorem dX7_levelOf_144 : decode cX7_levelOf 144 = .ok (.iload_n 1, 1) := by decide +kernel
theorem dX7_levelOf_145 : decode cX7_levelOf 145 = .ok (.iaload, 1) := by decide +kernel
theorem dX7_levelOf_146 : decode cX7_levelOf 146 = .ok (.ireturn, 1) := by decide +kernel
theorem dX7_level_0 : decode cX7_level 0 = .ok (.aload_n 0, 1) := by decide +kernel
theorem dX7_level_1 : decode cX7_level 1 = .ok (.getfield 156, 3) := by decide +kernel
theorem dX7_level_4 : decode cX7_level 4 = .ok (.ifCond .le 5, 3) := by decide +kernel
theorem dX7_level_7 : decode cX7_level 7 = .ok (.iconst (-1), 1) := by decide +kernel
theorem dX7_level_8 : decode cX7_level 8 = .ok (.ireturn, 1) := by decide +kernel
theorem dX7_level_9 : decode cX7_level 9 = .ok (.aload_n 0, 1) := by decide +kernel
theorem dX7_level_10 : decode cX7_level 10 = .ok (.iload_n 1, 1) := by decide +kernel
theorem dX7_level_11 : decode cX7_level 11 = .ok (.invokevirtual 212, 3) := by decide +kernel
theorem dX7_level_14 : decode cX7_level 14 = .ok (.ireturn, 1) := by decide +kernel
theorem dX7_chain_0 : decode cX7_chain 0 = .ok (.iconst 0, 1) := by decide +kernel
theorem dX7_chain_1 : decode cX7_chain 1 = .ok (.istore_n 1, 1) := by decide +kernel
theorem dX7_chain_2 : decode cX7_chain 2 = .ok (.iconst 0, 1) := by decide +kernel
theorem dX7_chain_3 : decode cX7_chain 3 = .ok (.istore_n 2, 1) := by decide +kernel
theorem dX7_chain_4 : decode cX7_chain 4 = .ok (.iload_n 2, 1) := by decide +kernel
theorem dX7_chain_5 : decode cX7_chain 5 = .ok (.aload_n 0, 1) := by decide +kernel
theorem dX7_chain_6 : decode cX7_chain 6 = .ok (.getfield 130, 3) := by decide +kernel
theorem dX7_chain_9 : decode cX7_chain 9 = .ok (.if_icmp .ge 28, 3) := by decide +kernel
theorem dX7_chain_12 : decode cX7_chain 12 = .ok (.aload_n 0, 1) := by decide +kernel
theorem dX7_chain_13 : decode cX7_chain 13 = .ok (.iload_n 2, 1) := by decide +kernel
theorem dX7_chain_14 : decode cX7_chain 14 = .ok (.invokevirtual 215, 3) := by decide +kernel
theorem dX7_chain_17 : decode cX7_chain 17 = .ok (.iconst 1, 1) := by decide +kernel
theorem dX7_chain_18 : decode cX7_chain 18 = .ok (.iadd, 1) := by decide +kernel
theorem dX7_chain_19 : decode cX7_chain 19 = .ok (.istore_n 3, 1) := by decide +kernel
theorem dX7_chain_20 : decode cX7_chain 20 = .ok (.iload_n 3, 1) := by decide +kernel
theorem dX7_chain_21 : decode cX7_chain 21 = .ok (.iload_n 1, 1) := by decide +kernel
theorem dX7_chain_22 : decode cX7_chain 22 = .ok (.if_icmp .le 7, 3) := by decide +kernel
theorem dX7_chain_25 : decode cX7_chain 25 = .ok (.iload_n 3, 1) := by decide +kernel
theorem dX7_chain_26 : decode cX7_chain 26 = .ok (.goto 4, 3) := by decide +kernel
theorem dX7_chain_29 : decode cX7_chain 29 = .ok (.iload_n 1, 1) := by decide +kernel
theorem dX7_chain_30 : decode cX7_chain 30 = .ok (.istore_n 1, 1) := by decide +kernel
theorem dX7_chain_31 : decode cX7_chain 31 = .ok (.iinc 2 1, 3) := by decide +kernel
theorem dX7_chain_34 : decode cX7_chain 34 = .ok (.goto (-30), 3) := by decide +kernel
theorem dX7_chain_37 : decode cX7_chain 37 = .ok (.aload_n 0, 1) := by decide +kernel
theorem dX7_chain_38 : decode cX7_chain 38 = .ok (.getfield 156, 3) := by decide +kernel
theorem dX7_chain_41 : decode cX7_chain 41 = .ok (.ifCond .le 7, 3) := by decide +kernel
theorem dX7_chain_44 : decode cX7_chain 44 = .ok (.iconst (-1), 1) := by decide +kernel
theorem dX7_chain_45 : decode cX7_chain 45 = .ok (.goto 4, 3) := by decide +kernel
theorem dX7_chain_48 : decode cX7_chain 48 = .ok (.iload_n 1, 1) := by decide +kernel
theorem dX7_chain_49 : decode cX7_chain 49 = .ok (.ireturn, 1) := by decide +kernel
theorem dX7_breakBy_0 : decode cX7_breakBy 0 = .ok (.iconst 0, 1) := by decide +kernel
theorem dX7_breakBy_1 : decode cX7_breakBy 1 = .ok (.istore_n 2, 1) := by decide +kernel
theorem dX7_breakBy_2 : decode cX7_breakBy 2 = .ok (.iload_n 2, 1) := by decide +kernel
theorem dX7_breakBy_3 : decode cX7_breakBy 3 = .ok (.bipush 64, 2) := by decide +kernel
theorem dX7_breakBy_5 : decode cX7_breakBy 5 = .ok (.if_icmp .ge 31, 3) := by decide +kernel
theorem dX7_breakBy_8 : decode cX7_breakBy 8 = .ok (.iload_n 2, 1) := by decide +kernel
theorem dX7_breakBy_9 : decode cX7_breakBy 9 = .ok (.invokestatic 191, 3) := by decide +kernel
theorem dX7_breakBy_12 : decode cX7_breakBy 12 = .ok (.iload_n 1, 1) := by decide +kernel
theorem dX7_breakBy_13 : decode cX7_breakBy 13 = .ok (.if_icmp .ne 17, 3) := by decide +kernel
theorem dX7_breakBy_16 : decode cX7_breakBy 16 = .ok (.aload_n 0, 1) := by decide +kernel
theorem dX7_breakBy_17 : decode cX7_breakBy 17 = .ok (.iload_n 2, 1) := by decide +kernel
theorem dX7_breakBy_18 : decode cX7_breakBy 18 = .ok (.invokevirtual 169, 3) := by decide +kernel
theorem dX7_breakBy_21 : decode cX7_breakBy 21 = .ok (.aload_n 0, 1) := by decide +kernel
theorem dX7_breakBy_22 : decode cX7_breakBy 22 = .ok (.invokevirtual 162, 3) := by decide +kernel
theorem dX7_breakBy_25 : decode cX7_breakBy 25 = .ok (.ifCond .ne 5, 3) := by decide +kernel
theorem dX7_breakBy_28 : decode cX7_breakBy 28 = .ok (.iload_n 2, 1) := by decide +kernel
theorem dX7_breakBy_29 : decode cX7_breakBy 29 = .ok (.ireturn, 1) := by decide +kernel
theorem dX7_breakBy_30 : decode cX7_breakBy 30 = .ok (.iinc 2 1, 3) := by decide +kernel
theorem dX7_breakBy_33 : decode cX7_breakBy 33 = .ok (.goto (-31), 3) := by decide +kernel
theorem dX7_breakBy_36 : decode cX7_breakBy 36 = .ok (.iconst (-1), 1) := by decide +kernel
theorem dX7_breakBy_37 : decode cX7_breakBy 37 = .ok (.ireturn, 1) := by decide +kernel
theorem dX7_breakNow_0 : decode cX7_breakNow 0 = .ok (.iconst (-1), 1) := by decide +kernel
theorem dX7_breakNow_1 : decode cX7_breakNow 1 = .ok (.istore_n 1, 1) := by decide +kernel
theorem dX7_breakNow_2 : decode cX7_breakNow 2 = .ok (.iconst 0, 1) := by decide +kernel
theorem dX7_breakNow_3 : decode cX7_breakNow 3 = .ok (.istore_n 2, 1) := by decide +kernel
theorem dX7_breakNow_4 : decode cX7_breakNow 4 = .ok (.iload_n 2, 1) := by decide +kernel
theorem dX7_breakNow_5 : decode cX7_breakNow 5 = .ok (.bipush 6, 2) := by decide +kernel
theorem dX7_breakNow_7 : decode cX7_breakNow 7 = .ok (.if_icmp .gt 20, 3) := by decide +kernel
theorem dX7_breakNow_10 : decode cX7_breakNow 10 = .ok (.iload_n 1, 1) := by decide +kernel
theorem dX7_breakNow_11 : decode cX7_breakNow 11 = .ok (.iconst (-1), 1) := by decide +kernel
theorem dX7_breakNow_12 : decode cX7_breakNow 12 = .ok (.if_icmp .ne 15, 3) := by decide +kernel
theorem dX7_breakNow_15 : decode cX7_breakNow 15 = .ok (.aload_n 0, 1) := by decide +kernel
theorem dX7_breakNow_16 : decode cX7_breakNow 16 = .ok (.iload_n 2, 1) := by decide +kernel
theorem dX7_breakNow_17 : decode cX7_breakNow 17 = .ok (.invokevirtual 218, 3) := by decide +kernel
theorem dX7_breakNow_20 : decode cX7_breakNow 20 = .ok (.istore_n 1, 1) := by decide +kernel
theorem dX7_breakNow_21 : decode cX7_breakNow 21 = .ok (.iinc 2 1, 3) := by decide +kernel
theorem dX7_breakNow_24 : decode cX7_breakNow 24 = .ok (.goto (-20), 3) := by decide +kernel
theorem dX7_breakNow_27 : decode cX7_breakNow 27 = .ok (.aload_n 0, 1) := by decide +kernel
theorem dX7_breakNow_28 : decode cX7_breakNow 28 = .ok (.aload_n 0, 1) := by decide +kernel
theorem dX7_breakNow_29 : decode cX7_breakNow 29 = .ok (.getfield 93, 3) := by decide +kernel
theorem dX7_breakNow_32 : decode cX7_breakNow 32 = .ok (.invokevirtual 169, 3) := by decide +kernel
theorem dX7_breakNow_35 : decode cX7_breakNow 35 = .ok (.iload_n 1, 1) := by decide +kernel
theorem dX7_breakNow_36 : decode cX7_breakNow 36 = .ok (.ireturn, 1) := by decide +kernel
theorem dX7_aboutNow_0 : decode cX7_aboutNow 0 = .ok (.iload_n 1, 1) := by decide +kernel
theorem dX7_aboutNow_1 : decode cX7_aboutNow 1 = .ok (.tableswitch 105 0 8 #[51, 56, 61, 66, 71, 76, 81, 87, 92], 51) := by decide +kernel
theorem dX7_aboutNow_52 : decode cX7_aboutNow 52 = .ok (.aload_n 0, 1) := by decide +kernel
theorem dX7_aboutNow_53 : decode cX7_aboutNow 53 = .ok (.getfield 87, 3) := by decide +kernel
theorem dX7_aboutNow_56 : decode cX7_aboutNow 56 = .ok (.ireturn, 1) := by decide +kernel
theorem dX7_aboutNow_57 : decode cX7_aboutNow 57 = .ok (.aload_n 0, 1) := by decide +kernel
theorem dX7_aboutNow_58 : decode cX7_aboutNow 58 = .ok (.getfield 130, 3) := by decide +kernel
theorem dX7_aboutNow_61 : decode cX7_aboutNow 61 = .ok (.ireturn, 1) := by decide +kernel
theorem dX7_aboutNow_62 : decode cX7_aboutNow 62 = .ok (.aload_n 0, 1) := by decide +kernel
theorem dX7_aboutNow_63 : decode cX7_aboutNow 63 = .ok (.invokevirtual 221, 3) := by decide +kernel
theorem dX7_aboutNow_66 : decode cX7_aboutNow 66 = .ok (.ireturn, 1) := by decide +kernel
theorem dX7_aboutNow_67 : decode cX7_aboutNow 67 = .ok (.aload_n 0, 1) := by decide +kernel
theorem dX7_aboutNow_68 : decode cX7_aboutNow 68 = .ok (.invokevirtual 224, 3) := by decide +kernel
theorem dX7_aboutNow_71 : decode cX7_aboutNow 71 = .ok (.ireturn, 1) := by decide +kernel
theorem dX7_aboutNow_72 : decode cX7_aboutNow 72 = .ok (.aload_n 0, 1) := by decide +kernel
theorem dX7_aboutNow_73 : decode cX7_aboutNow 73 = .ok (.getfield 156, 3) := by decide +kernel
theorem dX7_aboutNow_76 : decode cX7_aboutNow 76 = .ok (.ireturn, 1) := by decide +kernel
theorem dX7_aboutNow_77 : decode cX7_aboutNow 77 = .ok (.aload_n 0, 1) := by decide +kernel
theorem dX7_aboutNow_78 : decode cX7_aboutNow 78 = .ok (.invokevirtual 227, 3) := by decide +kernel
theorem dX7_aboutNow_81 : decode cX7_aboutNow 81 = .ok (.ireturn, 1) := by decide +kernel
theorem dX7_aboutNow_82 : decode cX7_aboutNow 82 = .ok (.aload_n 0, 1) := by decide +kernel
theorem dX7_aboutNow_83 : decode cX7_aboutNow 83 = .ok (.iconst (-1), 1) := by decide +kernel
theorem dX7_aboutNow_84 : decode cX7_aboutNow 84 = .ok (.invokevirtual 230, 3) := by decide +kernel
theorem dX7_aboutNow_87 : decode cX7_aboutNow 87 = .ok (.ireturn, 1) := by decide +kernel
theorem dX7_aboutNow_88 : decode cX7_aboutNow 88 = .ok (.aload_n 0, 1) := by decide +kernel
theorem dX7_aboutNow_89 : decode cX7_aboutNow 89 = .ok (.invokevirtual 185, 3) := by decide +kernel
theorem dX7_aboutNow_92 : decode cX7_aboutNow 92 = .ok (.ireturn, 1) := by decide +kernel
theorem dX7_aboutNow_93 : decode cX7_aboutNow 93 = .ok (.aload_n 0, 1) := by decide +kernel
theorem dX7_aboutNow_94 : decode cX7_aboutNow 94 = .ok (.invokevirtual 233, 3) := by decide +kernel
theorem dX7_aboutNow_97 : decode cX7_aboutNow 97 = .ok (.ifCond .eq 7, 3) := by decide +kernel
theorem dX7_aboutNow_100 : decode cX7_aboutNow 100 = .ok (.iconst 1, 1) := by decide +kernel
theorem dX7_aboutNow_101 : decode cX7_aboutNow 101 = .ok (.goto 4, 3) := by decide +kernel
theorem dX7_aboutNow_104 : decode cX7_aboutNow 104 = .ok (.iconst 0, 1) := by decide +kernel
theorem dX7_aboutNow_105 : decode cX7_aboutNow 105 = .ok (.ireturn, 1) := by decide +kernel
theorem dX7_aboutNow_106 : decode cX7_aboutNow 106 = .ok (.aload_n 0, 1) := by decide +kernel
theorem dX7_aboutNow_107 : decode cX7_aboutNow 107 = .ok (.invokevirtual 236, 3) := by decide +kernel
theorem dX7_aboutNow_110 : decode cX7_aboutNow 110 = .ok (.ireturn, 1) := by decide +kernel
theorem dX7_about_0 : decode cX7_about 0 = .ok (.iload_n 1, 1) := by decide +kernel
theorem dX7_about_1 : decode cX7_about 1 = .ok (.iconst 0, 1) := by decide +kernel
theorem dX7_about_2 : decode cX7_about 2 = .ok (.bipush 9, 2) := by decide +kernel
theorem dX7_about_4 : decode cX7_about 4 = .ok (.invokestatic 47, 3) := by decide +kernel
theorem dX7_about_7 : decode cX7_about 7 = .ok (.ifCond .ne 6, 3) := by decide +kernel
theorem dX7_about_10 : decode cX7_about 10 = .ok (.bipush (-102), 2) := by decide +kernel
theorem dX7_about_12 : decode cX7_about 12 = .ok (.ireturn, 1) := by decide +kernel
theorem dX7_about_13 : decode cX7_about 13 = .ok (.aload_n 0, 1) := by decide +kernel
theorem dX7_about_14 : decode cX7_about 14 = .ok (.invokevirtual 197, 3) := by decide +kernel
theorem dX7_about_17 : decode cX7_about 17 = .ok (.ifCond .eq 11, 3) := by decide +kernel
theorem dX7_about_20 : decode cX7_about 20 = .ok (.aload_n 0, 1) := by decide +kernel
theorem dX7_about_21 : decode cX7_about 21 = .ok (.iload_n 1, 1) := by decide +kernel
theorem dX7_about_22 : decode cX7_about 22 = .ok (.invokevirtual 239, 3) := by decide +kernel
theorem dX7_about_25 : decode cX7_about 25 = .ok (.goto 5, 3) := by decide +kernel
theorem dX7_about_28 : decode cX7_about 28 = .ok (.bipush (-103), 2) := by decide +kernel
theorem dX7_about_30 : decode cX7_about 30 = .ok (.ireturn, 1) := by decide +kernel
theorem dX7_pin_0 : decode cX7_pin 0 = .ok (.aload_n 0, 1) := by decide +kernel
theorem dX7_pin_1 : decode cX7_pin 1 = .ok (.iload_n 1, 1) := by decide +kernel
theorem dX7_pin_2 : decode cX7_pin 2 = .ok (.invokevirtual 242, 3) := by decide +kernel
theorem dX7_pin_5 : decode cX7_pin 5 = .ok (.ifCond .ne 8, 3) := by decide +kernel
theorem dX7_pin_8 : decode cX7_pin 8 = .ok (.bipush (-101), 2) := by decide +kernel
theorem dX7_pin_10 : decode cX7_pin 10 = .ok (.goto 27, 3) := by decide +kernel
theorem dX7_pin_13 : decode cX7_pin 13 = .ok (.iload_n 2, 1) := by decide +kernel
theorem dX7_pin_14 : decode cX7_pin 14 = .ok (.iconst 0, 1) := by decide +kernel
theorem dX7_pin_15 : decode cX7_pin 15 = .ok (.iconst 1, 1) := by decide +kernel
theorem dX7_pin_16 : decode cX7_pin 16 = .ok (.invokestatic 47, 3) := by decide +kernel
theorem dX7_pin_19 : decode cX7_pin 19 = .ok (.ifCond .eq 16, 3) := by decide +kernel
theorem dX7_pin_22 : decode cX7_pin 22 = .ok (.aload_n 0, 1) := by decide +kernel
theorem dX7_pin_23 : decode cX7_pin 23 = .ok (.getfield 7, 3) := by decide +kernel
theorem dX7_pin_26 : decode cX7_pin 26 = .ok (.iconst 2, 1) := by decide +kernel
theorem dX7_pin_27 : decode cX7_pin 27 = .ok (.iload_n 1, 1) := by decide +kernel
theorem dX7_pin_28 : decode cX7_pin 28 = .ok (.imul, 1) := by decide +kernel
theorem dX7_pin_29 : decode cX7_pin 29 = .ok (.iload_n 2, 1) := by decide +kernel
theorem dX7_pin_30 : decode cX7_pin 30 = .ok (.iadd, 1) := by decide +kernel
theorem dX7_pin_31 : decode cX7_pin 31 = .ok (.iaload, 1) := by decide +kernel
theorem dX7_pin_32 : decode cX7_pin 32 = .ok (.goto 5, 3) := by decide +kernel
theorem dX7_pin_35 : decode cX7_pin 35 = .ok (.bipush (-102), 2) := by decide +kernel
theorem dX7_pin_37 : decode cX7_pin 37 = .ok (.ireturn, 1) := by decide +kernel
theorem dX7_pinsOf_0 : decode cX7_pinsOf 0 = .ok (.iconst 0, 1) := by decide +kernel
theorem dX7_pinsOf_1 : decode cX7_pinsOf 1 = .ok (.istore_n 2, 1) := by decide +kernel
theorem dX7_pinsOf_2 : decode cX7_pinsOf 2 = .ok (.iconst 0, 1) := by decide +kernel
theorem dX7_pinsOf_3 : decode cX7_pinsOf 3 = .ok (.istore_n 3, 1) := by decide +kernel
theorem dX7_pinsOf_4 : decode cX7_pinsOf 4 = .ok (.iload_n 3, 1) := by decide +kernel
theorem dX7_pinsOf_5 : decode cX7_pinsOf 5 = .ok (.iconst 2, 1) := by decide +kernel
theorem dX7_pinsOf_6 : decode cX7_pinsOf 6 = .ok (.aload_n 0, 1) := by decide +kernel
theorem dX7_pinsOf_7 : decode cX7_pinsOf 7 = .ok (.getfield 87, 3) := by decide +kernel
theorem dX7_pinsOf_10 : decode cX7_pinsOf 10 = .ok (.imul, 1) := by decide +kernel
theorem dX7_pinsOf_11 : decode cX7_pinsOf 11 = .ok (.if_icmp .ge 27, 3) := by decide +kernel
theorem dX7_pinsOf_14 : decode cX7_pinsOf 14 = .ok (.iload_n 2, 1) := by decide +kernel
theorem dX7_pinsOf_15 : decode cX7_pinsOf 15 = .ok (.aload_n 0, 1) := by decide +kernel
theorem dX7_pinsOf_16 : decode cX7_pinsOf 16 = .ok (.getfield 7, 3) := by decide +kernel
theorem dX7_pinsOf_19 : decode cX7_pinsOf 19 = .ok (.iload_n 3, 1) := by decide +kernel
theorem dX7_pinsOf_20 : decode cX7_pinsOf 20 = .ok (.iaload, 1) := by decide +kernel
theorem dX7_pinsOf_21 : decode cX7_pinsOf 21 = .ok (.iload_n 1, 1) := by decide +kernel
theorem dX7_pinsOf_22 : decode cX7_pinsOf 22 = .ok (.if_icmp .ne 7, 3) := by decide +kernel
theorem dX7_pinsOf_25 : decode cX7_pinsOf 25 = .ok (.iconst 1, 1) := by decide +kernel
theorem dX7_pinsOf_26 : decode cX7_pinsOf 26 = .ok (.goto 4, 3) := by decide +kernel
theorem dX7_pinsOf_29 : decode cX7_pinsOf 29 = .ok (.iconst 0, 1) := by decide +kernel
theorem dX7_pinsOf_30 : decode cX7_pinsOf 30 = .ok (.iadd, 1) := by decide +kernel
theorem dX7_pinsOf_31 : decode cX7_pinsOf 31 = .ok (.istore_n 2, 1) := by decide +kernel
theorem dX7_pinsOf_32 : decode cX7_pinsOf 32 = .ok (.iinc 3 1, 3) := by decide +kernel
theorem dX7_pinsOf_35 : decode cX7_pinsOf 35 = .ok (.goto (-31), 3) := by decide +kernel
theorem dX7_pinsOf_38 : decode cX7_pinsOf 38 = .ok (.iload_n 2, 1) := by decide +kernel
theorem dX7_pinsOf_39 : decode cX7_pinsOf 39 = .ok (.ireturn, 1) := by decide +kernel
theorem dX7_isNetThere_0 : decode cX7_isNetThere 0 = .ok (.iload_n 1, 1) := by decide +kernel
theorem dX7_isNetThere_1 : decode cX7_isNetThere 1 = .ok (.iconst 0, 1) := by decide +kernel
theorem dX7_isNetThere_2 : decode cX7_isNetThere 2 = .ok (.iconst 5, 1) := by decide +kernel
theorem dX7_isNetThere_3 : decode cX7_isNetThere 3 = .ok (.invokestatic 47, 3) := by decide +kernel
theorem dX7_isNetThere_6 : decode cX7_isNetThere 6 = .ok (.ifCond .eq 15, 3) := by decide +kernel
theorem dX7_isNetThere_9 : decode cX7_isNetThere 9 = .ok (.aload_n 0, 1) := by decide +kernel
theorem dX7_isNetThere_10 : decode cX7_isNetThere 10 = .ok (.iload_n 1, 1) := by decide +kernel
theorem dX7_isNetThere_11 : decode cX7_isNetThere 11 = .ok (.invokevirtual 245, 3) := by decide +kernel
theorem dX7_isNetThere_14 : decode cX7_isNetThere 14 = .ok (.ifCond .le 7, 3) := by decide +kernel
theorem dX7_isNetThere_17 : decode cX7_isNetThere 17 = .ok (.iconst 1, 1) := by decide +kernel
theorem dX7_isNetThere_18 : decode cX7_isNetThere 18 = .ok (.goto 4, 3) := by decide +kernel
theorem dX7_isNetThere_21 : decode cX7_isNetThere 21 = .ok (.iconst 0, 1) := by decide +kernel
theorem dX7_isNetThere_22 : decode cX7_isNetThere 22 = .ok (.ireturn, 1) := by decide +kernel
theorem dX7_firstPin_0 : decode cX7_firstPin 0 = .ok (.iconst 0, 1) := by decide +kernel
theorem dX7_firstPin_1 : decode cX7_firstPin 1 = .ok (.istore_n 2, 1) := by decide +kernel
theorem dX7_firstPin_2 : decode cX7_firstPin 2 = .ok (.aload_n 0, 1) := by decide +kernel
theorem dX7_firstPin_3 : decode cX7_firstPin 3 = .ok (.iload_n 1, 1) := by decide +kernel
theorem dX7_firstPin_4 : decode cX7_firstPin 4 = .ok (.iload_n 2, 1) := by decide +kernel
theorem dX7_firstPin_5 : decode cX7_firstPin 5 = .ok (.invokevirtual 133, 3) := by decide +kernel
theorem dX7_firstPin_8 : decode cX7_firstPin 8 = .ok (.ifCond .ne 9, 3) := by decide +kernel
theorem dX7_firstPin_11 : decode cX7_firstPin 11 = .ok (.iinc 2 1, 3) := by decide +kernel
theorem dX7_firstPin_14 : decode cX7_firstPin 14 = .ok (.goto (-12), 3) := by decide +kernel
theorem dX7_firstPin_17 : decode cX7_firstPin 17 = .ok (.iload_n 2, 1) := by decide +kernel
theorem dX7_firstPin_18 : decode cX7_firstPin 18 = .ok (.ireturn, 1) := by decide +kernel
theorem dX7_lastPin_0 : decode cX7_lastPin 0 = .ok (.aload_n 0, 1) := by decide +kernel
theorem dX7_lastPin_1 : decode cX7_lastPin 1 = .ok (.getfield 87, 3) := by decide +kernel
theorem dX7_lastPin_4 : decode cX7_lastPin 4 = .ok (.iconst 1, 1) := by decide +kernel
theorem dX7_lastPin_5 : decode cX7_lastPin 5 = .ok (.isub, 1) := by decide +kernel
theorem dX7_lastPin_6 : decode cX7_lastPin 6 = .ok (.istore_n 2, 1) := by decide +kernel
theorem dX7_lastPin_7 : decode cX7_lastPin 7 = .ok (.aload_n 0, 1) := by decide +kernel
theorem dX7_lastPin_8 : decode cX7_lastPin 8 = .ok (.iload_n 1, 1) := by decide +kernel
theorem dX7_lastPin_9 : decode cX7_lastPin 9 = .ok (.iload_n 2, 1) := by decide +kernel
theorem dX7_lastPin_10 : decode cX7_lastPin 10 = .ok (.invokevirtual 133, 3) := by decide +kernel
theorem dX7_lastPin_13 : decode cX7_lastPin 13 = .ok (.ifCond .ne 9, 3) := by decide +kernel
theorem dX7_lastPin_16 : decode cX7_lastPin 16 = .ok (.iinc 2 (-1), 3) := by decide +kernel
theorem dX7_lastPin_19 : decode cX7_lastPin 19 = .ok (.goto (-12), 3) := by decide +kernel
theorem dX7_lastPin_22 : decode cX7_lastPin 22 = .ok (.iload_n 2, 1) := by decide +kernel
theorem dX7_lastPin_23 : decode cX7_lastPin 23 = .ok (.ireturn, 1) := by decide +kernel
theorem dX7_segmentsOf_0 : decode cX7_segmentsOf 0 = .ok (.iconst 0, 1) := by decide +kernel
theorem dX7_segmentsOf_1 : decode cX7_segmentsOf 1 = .ok (.istore_n 2, 1) := by decide +kernel
theorem dX7_segmentsOf_2 : decode cX7_segmentsOf 2 = .ok (.iconst 0, 1) := by decide +kernel
theorem dX7_segmentsOf_3 : decode cX7_segmentsOf 3 = .ok (.istore_n 3, 1) := by decide +kernel
theorem dX7_segmentsOf_4 : decode cX7_segmentsOf 4 = .ok (.iload_n 3, 1) := by decide +kernel
theorem dX7_segmentsOf_5 : decode cX7_segmentsOf 5 = .ok (.aload_n 0, 1) := by decide +kernel
theorem dX7_segmentsOf_6 : decode cX7_segmentsOf 6 = .ok (.getfield 130, 3) := by decide +kernel
theorem dX7_segmentsOf_9 : decode cX7_segmentsOf 9 = .ok (.if_icmp .ge 27, 3) := by decide +kernel
theorem dX7_segmentsOf_12 : decode cX7_segmentsOf 12 = .ok (.iload_n 2, 1) := by decide +kernel
theorem dX7_segmentsOf_13 : decode cX7_segmentsOf 13 = .ok (.aload_n 0, 1) := by decide +kernel
theorem dX7_segmentsOf_14 : decode cX7_segmentsOf 14 = .ok (.getfield 13, 3) := by decide +kernel
theorem dX7_segmentsOf_17 : decode cX7_segmentsOf 17 = .ok (.iload_n 3, 1) := by decide +kernel
theorem dX7_segmentsOf_18 : decode cX7_segmentsOf 18 = .ok (.iaload, 1) := by decide +kernel
theorem dX7_segmentsOf_19 : decode cX7_segmentsOf 19 = .ok (.iload_n 1, 1) := by decide +kernel
theorem dX7_segmentsOf_20 : decode cX7_segmentsOf 20 = .ok (.if_icmp .ne 7, 3) := by decide +kernel
theorem dX7_segmentsOf_23 : decode cX7_segmentsOf 23 = .ok (.iconst 1, 1) := by decide +kernel
theorem dX7_segmentsOf_24 : decode cX7_segmentsOf 24 = .ok (.goto 4, 3) := by decide +kernel
theorem dX7_segmentsOf_27 : decode cX7_segmentsOf 27 = .ok (.iconst 0, 1) := by decide +kernel
theorem dX7_segmentsOf_28 : decode cX7_segmentsOf 28 = .ok (.iadd, 1) := by decide +kernel
theorem dX7_segmentsOf_29 : decode cX7_segmentsOf 29 = .ok (.istore_n 2, 1) := by decide +kernel
theorem dX7_segmentsOf_30 : decode cX7_segmentsOf 30 = .ok (.iinc 3 1, 3) := by decide +kernel
theorem dX7_segmentsOf_33 : decode cX7_segmentsOf 33 = .ok (.goto (-29), 3) := by decide +kernel
theorem dX7_segmentsOf_36 : decode cX7_segmentsOf 36 = .ok (.iload_n 2, 1) := by decide +kernel
theorem dX7_segmentsOf_37 : decode cX7_segmentsOf 37 = .ok (.ireturn, 1) := by decide +kernel
theorem dX7_netNow_0 : decode cX7_netNow 0 = .ok (.iload_n 2, 1) := by decide +kernel
theorem dX7_netNow_1 : decode cX7_netNow 1 = .ok (.tableswitch 58 0 3 #[31, 37, 43, 49], 31) := by decide +kernel
theorem dX7_netNow_32 : decode cX7_netNow 32 = .ok (.aload_n 0, 1) := by decide +kernel
theorem dX7_netNow_33 : decode cX7_netNow 33 = .ok (.iload_n 1, 1) := by decide +kernel
theorem dX7_netNow_34 : decode cX7_netNow 34 = .ok (.invokevirtual 245, 3) := by decide +kernel
theorem dX7_netNow_37 : decode cX7_netNow 37 = .ok (.ireturn, 1) := by decide +kernel
theorem dX7_netNow_38 : decode cX7_netNow 38 = .ok (.aload_n 0, 1) := by decide +kernel
theorem dX7_netNow_39 : decode cX7_netNow 39 = .ok (.iload_n 1, 1) := by decide +kernel
theorem dX7_netNow_40 : decode cX7_netNow 40 = .ok (.invokevirtual 248, 3) := by decide +kernel
theorem dX7_netNow_43 : decode cX7_netNow 43 = .ok (.ireturn, 1) := by decide +kernel
theorem dX7_netNow_44 : decode cX7_netNow 44 = .ok (.aload_n 0, 1) := by decide +kernel
theorem dX7_netNow_45 : decode cX7_netNow 45 = .ok (.iload_n 1, 1) := by decide +kernel
theorem dX7_netNow_46 : decode cX7_netNow 46 = .ok (.invokevirtual 251, 3) := by decide +kernel
theorem dX7_netNow_49 : decode cX7_netNow 49 = .ok (.ireturn, 1) := by decide +kernel
theorem dX7_netNow_50 : decode cX7_netNow 50 = .ok (.aload_n 0, 1) := by decide +kernel
theorem dX7_netNow_51 : decode cX7_netNow 51 = .ok (.getfield 93, 3) := by decide +kernel
theorem dX7_netNow_54 : decode cX7_netNow 54 = .ok (.iload_n 1, 1) := by decide +kernel
theorem dX7_netNow_55 : decode cX7_netNow 55 = .ok (.ishr, 1) := by decide +kernel
theorem dX7_netNow_56 : decode cX7_netNow 56 = .ok (.iconst 1, 1) := by decide +kernel
theorem dX7_netNow_57 : decode cX7_netNow 57 = .ok (.iand, 1) := by decide +kernel
theorem dX7_netNow_58 : decode cX7_netNow 58 = .ok (.ireturn, 1) := by decide +kernel
theorem dX7_netNow_59 : decode cX7_netNow 59 = .ok (.aload_n 0, 1) := by decide +kernel
theorem dX7_netNow_60 : decode cX7_netNow 60 = .ok (.iload_n 1, 1) := by decide +kernel
theorem dX7_netNow_61 : decode cX7_netNow 61 = .ok (.invokevirtual 254, 3) := by decide +kernel
theorem dX7_netNow_64 : decode cX7_netNow 64 = .ok (.ireturn, 1) := by decide +kernel
theorem dX7_net_0 : decode cX7_net 0 = .ok (.aload_n 0, 1) := by decide +kernel
theorem dX7_net_1 : decode cX7_net 1 = .ok (.iload_n 1, 1) := by decide +kernel
theorem dX7_net_2 : decode cX7_net 2 = .ok (.invokevirtual 257, 3) := by decide +kernel
theorem dX7_net_5 : decode cX7_net 5 = .ok (.ifCond .ne 8, 3) := by decide +kernel
theorem dX7_net_8 : decode cX7_net 8 = .ok (.bipush (-101), 2) := by decide +kernel
theorem dX7_net_10 : decode cX7_net 10 = .ok (.goto 23, 3) := by decide +kernel
theorem dX7_net_13 : decode cX7_net 13 = .ok (.iload_n 2, 1) := by decide +kernel
theorem dX7_net_14 : decode cX7_net 14 = .ok (.iconst 0, 1) := by decide +kernel
theorem dX7_net_15 : decode cX7_net 15 = .ok (.iconst 4, 1) := by decide +kernel
theorem dX7_net_16 : decode cX7_net 16 = .ok (.invokestatic 47, 3) := by decide +kernel
theorem dX7_net_19 : decode cX7_net 19 = .ok (.ifCond .eq 12, 3) := by decide +kernel
theorem dX7_net_22 : decode cX7_net 22 = .ok (.aload_n 0, 1) := by decide +kernel
theorem dX7_net_23 : decode cX7_net 23 = .ok (.iload_n 1, 1) := by decide +kernel
theorem dX7_net_24 : decode cX7_net 24 = .ok (.iload_n 2, 1) := by decide +kernel
theorem dX7_net_25 : decode cX7_net 25 = .ok (.invokevirtual 260, 3) := by decide +kernel
theorem dX7_net_28 : decode cX7_net 28 = .ok (.goto 5, 3) := by decide +kernel
theorem dX7_net_31 : decode cX7_net 31 = .ok (.bipush (-102), 2) := by decide +kernel
theorem dX7_net_33 : decode cX7_net 33 = .ok (.ireturn, 1) := by decide +kernel
theorem dX7_isSegment_0 : decode cX7_isSegment 0 = .ok (.iload_n 1, 1) := by decide +kernel
theorem dX7_isSegment_1 : decode cX7_isSegment 1 = .ok (.iconst 0, 1) := by decide +kernel
theorem dX7_isSegment_2 : decode cX7_isSegment 2 = .ok (.aload_n 0, 1) := by decide +kernel
theorem dX7_isSegment_3 : decode cX7_isSegment 3 = .ok (.getfield 130, 3) := by decide +kernel
theorem dX7_isSegment_6 : decode cX7_isSegment 6 = .ok (.iconst 1, 1) := by decide +kernel
theorem dX7_isSegment_7 : decode cX7_isSegment 7 = .ok (.isub, 1) := by decide +kernel
theorem dX7_isSegment_8 : decode cX7_isSegment 8 = .ok (.invokestatic 47, 3) := by decide +kernel
theorem dX7_isSegment_11 : decode cX7_isSegment 11 = .ok (.ireturn, 1) := by decide +kernel
theorem dX7_overIt_0 : decode cX7_overIt 0 = .ok (.iconst 0, 1) := by decide +kernel
theorem dX7_overIt_1 : decode cX7_overIt 1 = .ok (.istore_n 2, 1) := by decide +kernel
theorem dX7_overIt_2 : decode cX7_overIt 2 = .ok (.iconst 0, 1) := by decide +kernel
theorem dX7_overIt_3 : decode cX7_overIt 3 = .ok (.istore_n 3, 1) := by decide +kernel
theorem dX7_overIt_4 : decode cX7_overIt 4 = .ok (.iload_n 3, 1) := by decide +kernel
theorem dX7_overIt_5 : decode cX7_overIt 5 = .ok (.aload_n 0, 1) := by decide +kernel
theorem dX7_overIt_6 : decode cX7_overIt 6 = .ok (.getfield 130, 3) := by decide +kernel
theorem dX7_overIt_9 : decode cX7_overIt 9 = .ok (.if_icmp .ge 22, 3) := by decide +kernel
theorem dX7_overIt_12 : decode cX7_overIt 12 = .ok (.iload_n 2, 1) := by decide +kernel
theorem dX7_overIt_13 : decode cX7_overIt 13 = .ok (.aload_n 0, 1) := by decide +kernel
theorem dX7_overIt_14 : decode cX7_overIt 14 = .ok (.getfield 25, 3) := by decide +kernel
theorem dX7_overIt_17 : decode cX7_overIt 17 = .ok (.iload_n 3, 1) := by decide +kernel
theorem dX7_overIt_18 : decode cX7_overIt 18 = .ok (.iaload, 1) := by decide +kernel
theorem dX7_overIt_19 : decode cX7_overIt 19 = .ok (.iload_n 1, 1) := by decide +kernel
theorem dX7_overIt_20 : decode cX7_overIt 20 = .ok (.ishr, 1) := by decide +kernel
theorem dX7_overIt_21 : decode cX7_overIt 21 = .ok (.iconst 1, 1) := by decide +kernel
theorem dX7_overIt_22 : decode cX7_overIt 22 = .ok (.iand, 1) := by decide +kernel
theorem dX7_overIt_23 : decode cX7_overIt 23 = .ok (.iadd, 1) := by decide +kernel
theorem dX7_overIt_24 : decode cX7_overIt 24 = .ok (.istore_n 2, 1) := by decide +kernel
theorem dX7_overIt_25 : decode cX7_overIt 25 = .ok (.iinc 3 1, 3) := by decide +kernel
theorem dX7_overIt_28 : decode cX7_overIt 28 = .ok (.goto (-24), 3) := by decide +kernel
theorem dX7_overIt_31 : decode cX7_overIt 31 = .ok (.iload_n 2, 1) := by decide +kernel
theorem dX7_overIt_32 : decode cX7_overIt 32 = .ok (.ireturn, 1) := by decide +kernel
theorem dX7_segmentNow_0 : decode cX7_segmentNow 0 = .ok (.iload_n 2, 1) := by decide +kernel
theorem dX7_segmentNow_1 : decode cX7_segmentNow 1 = .ok (.tableswitch 83 0 5 #[39, 46, 53, 60, 67, 77], 39) := by decide +kernel
theorem dX7_segmentNow_40 : decode cX7_segmentNow 40 = .ok (.aload_n 0, 1) := by decide +kernel
theorem dX7_segmentNow_41 : decode cX7_segmentNow 41 = .ok (.getfield 13, 3) := by decide +kernel
theorem dX7_segmentNow_44 : decode cX7_segmentNow 44 = .ok (.iload_n 1, 1) := by decide +kernel
theorem dX7_segmentNow_45 : decode cX7_segmentNow 45 = .ok (.iaload, 1) := by decide +kernel
theorem dX7_segmentNow_46 : decode cX7_segmentNow 46 = .ok (.ireturn, 1) := by decide +kernel
theorem dX7_segmentNow_47 : decode cX7_segmentNow 47 = .ok (.aload_n 0, 1) := by decide +kernel
theorem dX7_segmentNow_48 : decode cX7_segmentNow 48 = .ok (.getfield 16, 3) := by decide +kernel
theorem dX7_segmentNow_51 : decode cX7_segmentNow 51 = .ok (.iload_n 1, 1) := by decide +kernel
theorem dX7_segmentNow_52 : decode cX7_segmentNow 52 = .ok (.iaload, 1) := by decide +kernel
theorem dX7_segmentNow_53 : decode cX7_segmentNow 53 = .ok (.ireturn, 1) := by decide +kernel
theorem dX7_segmentNow_54 : decode cX7_segmentNow 54 = .ok (.aload_n 0, 1) := by decide +kernel
theorem dX7_segmentNow_55 : decode cX7_segmentNow 55 = .ok (.getfield 19, 3) := by decide +kernel
theorem dX7_segmentNow_58 : decode cX7_segmentNow 58 = .ok (.iload_n 1, 1) := by decide +kernel
theorem dX7_segmentNow_59 : decode cX7_segmentNow 59 = .ok (.iaload, 1) := by decide +kernel
theorem dX7_segmentNow_60 : decode cX7_segmentNow 60 = .ok (.ireturn, 1) := by decide +kernel
theorem dX7_segmentNow_61 : decode cX7_segmentNow 61 = .ok (.aload_n 0, 1) := by decide +kernel
theorem dX7_segmentNow_62 : decode cX7_segmentNow 62 = .ok (.getfield 22, 3) := by decide +kernel
theorem dX7_segmentNow_65 : decode cX7_segmentNow 65 = .ok (.iload_n 1, 1) := by decide +kernel
theorem dX7_segmentNow_66 : decode cX7_segmentNow 66 = .ok (.iaload, 1) := by decide +kernel
theorem dX7_segmentNow_67 : decode cX7_segmentNow 67 = .ok (.ireturn, 1) := by decide +kernel
theorem dX7_segmentNow_68 : decode cX7_segmentNow 68 = .ok (.aload_n 0, 1) := by decide +kernel
theorem dX7_segmentNow_69 : decode cX7_segmentNow 69 = .ok (.getfield 25, 3) := by decide +kernel
theorem dX7_segmentNow_72 : decode cX7_segmentNow 72 = .ok (.iload_n 1, 1) := by decide +kernel
theorem dX7_segmentNow_73 : decode cX7_segmentNow 73 = .ok (.iaload, 1) := by decide +kernel
theorem dX7_segmentNow_74 : decode cX7_segmentNow 74 = .ok (.invokestatic 191, 3) := by decide +kernel
theorem dX7_segmentNow_77 : decode cX7_segmentNow 77 = .ok (.ireturn, 1) := by decide +kernel
theorem dX7_segmentNow_78 : decode cX7_segmentNow 78 = .ok (.aload_n 0, 1) := by decide +kernel
theorem dX7_segmentNow_79 : decode cX7_segmentNow 79 = .ok (.iload_n 1, 1) := by decide +kernel
theorem dX7_segmentNow_80 : decode cX7_segmentNow 80 = .ok (.invokevirtual 263, 3) := by decide +kernel
theorem dX7_segmentNow_83 : decode cX7_segmentNow 83 = .ok (.ireturn, 1) := by decide +kernel
theorem dX7_segmentNow_84 : decode cX7_segmentNow 84 = .ok (.aload_n 0, 1) := by decide +kernel
theorem dX7_segmentNow_85 : decode cX7_segmentNow 85 = .ok (.iload_n 1, 1) := by decide +kernel
theorem dX7_segmentNow_86 : decode cX7_segmentNow 86 = .ok (.invokevirtual 215, 3) := by decide +kernel
theorem dX7_segmentNow_89 : decode cX7_segmentNow 89 = .ok (.ireturn, 1) := by decide +kernel
theorem dX7_segment_0 : decode cX7_segment 0 = .ok (.aload_n 0, 1) := by decide +kernel
theorem dX7_segment_1 : decode cX7_segment 1 = .ok (.iload_n 1, 1) := by decide +kernel
theorem dX7_segment_2 : decode cX7_segment 2 = .ok (.invokevirtual 266, 3) := by decide +kernel
theorem dX7_segment_5 : decode cX7_segment 5 = .ok (.ifCond .ne 8, 3) := by decide +kernel
theorem dX7_segment_8 : decode cX7_segment 8 = .ok (.bipush (-101), 2) := by decide +kernel
theorem dX7_segment_10 : decode cX7_segment 10 = .ok (.goto 24, 3) := by decide +kernel
theorem dX7_segment_13 : decode cX7_segment 13 = .ok (.iload_n 2, 1) := by decide +kernel
theorem dX7_segment_14 : decode cX7_segment 14 = .ok (.iconst 0, 1) := by decide +kernel
theorem dX7_segment_15 : decode cX7_segment 15 = .ok (.bipush 6, 2) := by decide +kernel
theorem dX7_segment_17 : decode cX7_segment 17 = .ok (.invokestatic 47, 3) := by decide +kernel
theorem dX7_segment_20 : decode cX7_segment 20 = .ok (.ifCond .eq 12, 3) := by decide +kernel
theorem dX7_segment_23 : decode cX7_segment 23 = .ok (.aload_n 0, 1) := by decide +kernel
theorem dX7_segment_24 : decode cX7_segment 24 = .ok (.iload_n 1, 1) := by decide +kernel
theorem dX7_segment_25 : decode cX7_segment 25 = .ok (.iload_n 2, 1) := by decide +kernel
theorem dX7_segment_26 : decode cX7_segment 26 = .ok (.invokevirtual 269, 3) := by decide +kernel
theorem dX7_segment_29 : decode cX7_segment 29 = .ok (.goto 5, 3) := by decide +kernel
theorem dX7_segment_32 : decode cX7_segment 32 = .ok (.bipush (-102), 2) := by decide +kernel
theorem dX7_segment_34 : decode cX7_segment 34 = .ok (.ireturn, 1) := by decide +kernel
theorem dX7_above_0 : decode cX7_above 0 = .ok (.aload_n 0, 1) := by decide +kernel
theorem dX7_above_1 : decode cX7_above 1 = .ok (.iload_n 1, 1) := by decide +kernel
theorem dX7_above_2 : decode cX7_above 2 = .ok (.invokevirtual 266, 3) := by decide +kernel
theorem dX7_above_5 : decode cX7_above 5 = .ok (.ifCond .eq 24, 3) := by decide +kernel
theorem dX7_above_8 : decode cX7_above 8 = .ok (.aload_n 0, 1) := by decide +kernel
theorem dX7_above_9 : decode cX7_above 9 = .ok (.iload_n 2, 1) := by decide +kernel
theorem dX7_above_10 : decode cX7_above 10 = .ok (.invokevirtual 266, 3) := by decide +kernel
theorem dX7_above_13 : decode cX7_above 13 = .ok (.ifCond .eq 16, 3) := by decide +kernel
theorem dX7_above_16 : decode cX7_above 16 = .ok (.aload_n 0, 1) := by decide +kernel
theorem dX7_above_17 : decode cX7_above 17 = .ok (.getfield 25, 3) := by decide +kernel
theorem dX7_above_20 : decode cX7_above 20 = .ok (.iload_n 1, 1) := by decide +kernel
theorem dX7_above_21 : decode cX7_above 21 = .ok (.iaload, 1) := by decide +kernel
theorem dX7_above_22 : decode cX7_above 22 = .ok (.iload_n 2, 1) := by decide +kernel
theorem dX7_above_23 : decode cX7_above 23 = .ok (.ishr, 1) := by decide +kernel
theorem dX7_above_24 : decode cX7_above 24 = .ok (.iconst 1, 1) := by decide +kernel
theorem dX7_above_25 : decode cX7_above 25 = .ok (.iand, 1) := by decide +kernel
theorem dX7_above_26 : decode cX7_above 26 = .ok (.goto 5, 3) := by decide +kernel
theorem dX7_above_29 : decode cX7_above 29 = .ok (.bipush (-101), 2) := by decide +kernel
theorem dX7_above_31 : decode cX7_above 31 = .ok (.ireturn, 1) := by decide +kernel
theorem dX7_isFree_0 : decode cX7_isFree 0 = .ok (.aload_n 0, 1) := by decide +kernel
theorem dX7_isFree_1 : decode cX7_isFree 1 = .ok (.iload_n 1, 1) := by decide +kernel
theorem dX7_isFree_2 : decode cX7_isFree 2 = .ok (.iload_n 2, 1) := by decide +kernel
theorem dX7_isFree_3 : decode cX7_isFree 3 = .ok (.invokevirtual 179, 3) := by decide +kernel
theorem dX7_isFree_6 : decode cX7_isFree 6 = .ok (.ifCond .ne 33, 3) := by decide +kernel
theorem dX7_isFree_9 : decode cX7_isFree 9 = .ok (.aload_n 0, 1) := by decide +kernel
theorem dX7_isFree_10 : decode cX7_isFree 10 = .ok (.getfield 28, 3) := by decide +kernel
theorem dX7_isFree_13 : decode cX7_isFree 13 = .ok (.iload_n 1, 1) := by decide +kernel
theorem dX7_isFree_14 : decode cX7_isFree 14 = .ok (.iaload, 1) := by decide +kernel
theorem dX7_isFree_15 : decode cX7_isFree 15 = .ok (.iload_n 2, 1) := by decide +kernel
theorem dX7_isFree_16 : decode cX7_isFree 16 = .ok (.invokestatic 43, 3) := by decide +kernel
theorem dX7_isFree_19 : decode cX7_isFree 19 = .ok (.ifCond .ne 20, 3) := by decide +kernel
theorem dX7_isFree_22 : decode cX7_isFree 22 = .ok (.aload_n 0, 1) := by decide +kernel
theorem dX7_isFree_23 : decode cX7_isFree 23 = .ok (.getfield 28, 3) := by decide +kernel
theorem dX7_isFree_26 : decode cX7_isFree 26 = .ok (.iload_n 2, 1) := by decide +kernel
theorem dX7_isFree_27 : decode cX7_isFree 27 = .ok (.iaload, 1) := by decide +kernel
theorem dX7_isFree_28 : decode cX7_isFree 28 = .ok (.iload_n 1, 1) := by decide +kernel
theorem dX7_isFree_29 : decode cX7_isFree 29 = .ok (.invokestatic 43, 3) := by decide +kernel
theorem dX7_isFree_32 : decode cX7_isFree 32 = .ok (.ifCond .ne 7, 3) := by decide +kernel
theorem dX7_isFree_35 : decode cX7_isFree 35 = .ok (.iconst 1, 1) := by decide +kernel
theorem dX7_isFree_36 : decode cX7_isFree 36 = .ok (.goto 4, 3) := by decide +kernel
theorem dX7_isFree_39 : decode cX7_isFree 39 = .ok (.iconst 0, 1) := by decide +kernel
theorem dX7_isFree_40 : decode cX7_isFree 40 = .ok (.ireturn, 1) := by decide +kernel
theorem dX7_may_0 : decode cX7_may 0 = .ok (.aload_n 0, 1) := by decide +kernel
theorem dX7_may_1 : decode cX7_may 1 = .ok (.iload_n 1, 1) := by decide +kernel
theorem dX7_may_2 : decode cX7_may 2 = .ok (.invokevirtual 266, 3) := by decide +kernel
theorem dX7_may_5 : decode cX7_may 5 = .ok (.ifCond .eq 11, 3) := by decide +kernel
theorem dX7_may_8 : decode cX7_may 8 = .ok (.aload_n 0, 1) := by decide +kernel
theorem dX7_may_9 : decode cX7_may 9 = .ok (.iload_n 2, 1) := by decide +kernel
theorem dX7_may_10 : decode cX7_may 10 = .ok (.invokevirtual 266, 3) := by decide +kernel
theorem dX7_may_13 : decode cX7_may 13 = .ok (.ifCond .ne 8, 3) := by decide +kernel
theorem dX7_may_16 : decode cX7_may 16 = .ok (.bipush (-101), 2) := by decide +kernel
theorem dX7_may_18 : decode cX7_may 18 = .ok (.goto 17, 3) := by decide +kernel
theorem dX7_may_21 : decode cX7_may 21 = .ok (.aload_n 0, 1) := by decide +kernel
theorem dX7_may_22 : decode cX7_may 22 = .ok (.iload_n 1, 1) := by decide +kernel
theorem dX7_may_23 : decode cX7_may 23 = .ok (.iload_n 2, 1) := by decide +kernel
theorem dX7_may_24 : decode cX7_may 24 = .ok (.invokevirtual 272, 3) := by decide +kernel
theorem dX7_may_27 : decode cX7_may 27 = .ok (.ifCond .eq 7, 3) := by decide +kernel
theorem dX7_may_30 : decode cX7_may 30 = .ok (.iconst 1, 1) := by decide +kernel
theorem dX7_may_31 : decode cX7_may 31 = .ok (.goto 4, 3) := by decide +kernel
theorem dX7_may_34 : decode cX7_may 34 = .ok (.iconst 0, 1) := by decide +kernel
theorem dX7_may_35 : decode cX7_may 35 = .ok (.ireturn, 1) := by decide +kernel
theorem dX7_ring_0 : decode cX7_ring 0 = .ok (.iload_n 1, 1) := by decide +kernel
theorem dX7_ring_1 : decode cX7_ring 1 = .ok (.iconst 0, 1) := by decide +kernel
theorem dX7_ring_2 : decode cX7_ring 2 = .ok (.aload_n 0, 1) := by decide +kernel
theorem dX7_ring_3 : decode cX7_ring 3 = .ok (.getfield 156, 3) := by decide +kernel
theorem dX7_ring_6 : decode cX7_ring 6 = .ok (.iconst 1, 1) := by decide +kernel
theorem dX7_ring_7 : decode cX7_ring 7 = .ok (.isub, 1) := by decide +kernel
theorem dX7_ring_8 : decode cX7_ring 8 = .ok (.invokestatic 47, 3) := by decide +kernel
theorem dX7_ring_11 : decode cX7_ring 11 = .ok (.ifCond .eq 12, 3) := by decide +kernel
theorem dX7_ring_14 : decode cX7_ring 14 = .ok (.aload_n 0, 1) := by decide +kernel
theorem dX7_ring_15 : decode cX7_ring 15 = .ok (.getfield 31, 3) := by decide +kernel
theorem dX7_ring_18 : decode cX7_ring 18 = .ok (.iload_n 1, 1) := by decide +kernel
theorem dX7_ring_19 : decode cX7_ring 19 = .ok (.iaload, 1) := by decide +kernel
theorem dX7_ring_20 : decode cX7_ring 20 = .ok (.goto 5, 3) := by decide +kernel
theorem dX7_ring_23 : decode cX7_ring 23 = .ok (.bipush (-101), 2) := by decide +kernel
theorem dX7_ring_25 : decode cX7_ring 25 = .ok (.ireturn, 1) := by decide +kernel
theorem dX7_zone_0 : decode cX7_zone 0 = .ok (.iload_n 1, 1) := by decide +kernel
theorem dX7_zone_1 : decode cX7_zone 1 = .ok (.ifCond .lt 20, 3) := by decide +kernel
theorem dX7_zone_4 : decode cX7_zone 4 = .ok (.aload_n 0, 1) := by decide +kernel
theorem dX7_zone_5 : decode cX7_zone 5 = .ok (.iload_n 1, 1) := by decide +kernel
theorem dX7_zone_6 : decode cX7_zone 6 = .ok (.invokevirtual 230, 3) := by decide +kernel
theorem dX7_zone_9 : decode cX7_zone 9 = .ok (.iconst (-1), 1) := by decide +kernel
theorem dX7_zone_10 : decode cX7_zone 10 = .ok (.if_icmp .eq 11, 3) := by decide +kernel
theorem dX7_zone_13 : decode cX7_zone 13 = .ok (.aload_n 0, 1) := by decide +kernel
theorem dX7_zone_14 : decode cX7_zone 14 = .ok (.iload_n 1, 1) := by decide +kernel
theorem dX7_zone_15 : decode cX7_zone 15 = .ok (.invokevirtual 230, 3) := by decide +kernel
theorem dX7_zone_18 : decode cX7_zone 18 = .ok (.goto 5, 3) := by decide +kernel
theorem dX7_zone_21 : decode cX7_zone 21 = .ok (.bipush (-101), 2) := by decide +kernel
theorem dX7_zone_23 : decode cX7_zone 23 = .ok (.ireturn, 1) := by decide +kernel
theorem dX7_put_0 : decode cX7_put 0 = .ok (.aload_n 0, 1) := by decide +kernel
theorem dX7_put_1 : decode cX7_put 1 = .ok (.iload_n 1, 1) := by decide +kernel
theorem dX7_put_2 : decode cX7_put 2 = .ok (.invokevirtual 242, 3) := by decide +kernel
theorem dX7_put_5 : decode cX7_put 5 = .ok (.ifCond .ne 6, 3) := by decide +kernel
theorem dX7_put_8 : decode cX7_put 8 = .ok (.bipush (-101), 2) := by decide +kernel
theorem dX7_put_10 : decode cX7_put 10 = .ok (.ireturn, 1) := by decide +kernel
theorem dX7_put_11 : decode cX7_put 11 = .ok (.iload_n 2, 1) := by decide +kernel
theorem dX7_put_12 : decode cX7_put 12 = .ok (.iconst 0, 1) := by decide +kernel
theorem dX7_put_13 : decode cX7_put 13 = .ok (.iconst 1, 1) := by decide +kernel
theorem dX7_put_14 : decode cX7_put 14 = .ok (.invokestatic 47, 3) := by decide +kernel
theorem dX7_put_17 : decode cX7_put 17 = .ok (.ifCond .eq 12, 3) := by decide +kernel
theorem dX7_put_20 : decode cX7_put 20 = .ok (.iload_n 3, 1) := by decide +kernel
theorem dX7_put_21 : decode cX7_put 21 = .ok (.iconst (-1), 1) := by decide +kernel
theorem dX7_put_22 : decode cX7_put 22 = .ok (.iconst 5, 1) := by decide +kernel
theorem dX7_put_23 : decode cX7_put 23 = .ok (.invokestatic 47, 3) := by decide +kernel
theorem dX7_put_26 : decode cX7_put 26 = .ok (.ifCond .ne 6, 3) := by decide +kernel
theorem dX7_put_29 : decode cX7_put 29 = .ok (.bipush (-102), 2) := by decide +kernel
theorem dX7_put_31 : decode cX7_put 31 = .ok (.ireturn, 1) := by decide +kernel
theorem dX7_put_32 : decode cX7_put 32 = .ok (.aload_n 0, 1) := by decide +kernel
theorem dX7_put_33 : decode cX7_put 33 = .ok (.getfield 7, 3) := by decide +kernel
theorem dX7_put_36 : decode cX7_put 36 = .ok (.iconst 2, 1) := by decide +kernel
theorem dX7_put_37 : decode cX7_put 37 = .ok (.iload_n 1, 1) := by decide +kernel
theorem dX7_put_38 : decode cX7_put 38 = .ok (.imul, 1) := by decide +kernel
theorem dX7_put_39 : decode cX7_put 39 = .ok (.iload_n 2, 1) := by decide +kernel
theorem dX7_put_40 : decode cX7_put 40 = .ok (.iadd, 1) := by decide +kernel
theorem dX7_put_41 : decode cX7_put 41 = .ok (.iaload, 1) := by decide +kernel
theorem dX7_put_42 : decode cX7_put 42 = .ok (.istore 4, 2) := by decide +kernel
theorem dX7_put_44 : decode cX7_put 44 = .ok (.aload_n 0, 1) := by decide +kernel
theorem dX7_put_45 : decode cX7_put 45 = .ok (.getfield 7, 3) := by decide +kernel
theorem dX7_put_48 : decode cX7_put 48 = .ok (.iconst 2, 1) := by decide +kernel
theorem dX7_put_49 : decode cX7_put 49 = .ok (.iload_n 1, 1) := by decide +kernel
theorem dX7_put_50 : decode cX7_put 50 = .ok (.imul, 1) := by decide +kernel
theorem dX7_put_51 : decode cX7_put 51 = .ok (.iload_n 2, 1) := by decide +kernel
theorem dX7_put_52 : decode cX7_put 52 = .ok (.iadd, 1) := by decide +kernel
theorem dX7_put_53 : decode cX7_put 53 = .ok (.iload_n 3, 1) := by decide +kernel
theorem dX7_put_54 : decode cX7_put 54 = .ok (.iastore, 1) := by decide +kernel
theorem dX7_put_55 : decode cX7_put 55 = .ok (.aload_n 0, 1) := by decide +kernel
theorem dX7_put_56 : decode cX7_put 56 = .ok (.invokevirtual 99, 3) := by decide +kernel
theorem dX7_put_59 : decode cX7_put 59 = .ok (.iload 4, 2) := by decide +kernel
theorem dX7_put_61 : decode cX7_put 61 = .ok (.ireturn, 1) := by decide +kernel
theorem dX7_set_0 : decode cX7_set 0 = .ok (.aload_n 0, 1) := by decide +kernel
theorem dX7_set_1 : decode cX7_set 1 = .ok (.iload_n 1, 1) := by decide +kernel
theorem dX7_set_2 : decode cX7_set 2 = .ok (.invokevirtual 266, 3) := by decide +kernel
theorem dX7_set_5 : decode cX7_set 5 = .ok (.ifCond .ne 6, 3) := by decide +kernel
theorem dX7_set_8 : decode cX7_set 8 = .ok (.bipush (-101), 2) := by decide +kernel
theorem dX7_set_10 : decode cX7_set 10 = .ok (.ireturn, 1) := by decide +kernel
theorem dX7_set_11 : decode cX7_set 11 = .ok (.iload_n 2, 1) := by decide +kernel
theorem dX7_set_12 : decode cX7_set 12 = .ok (.iconst (-1), 1) := by decide +kernel
theorem dX7_set_13 : decode cX7_set 13 = .ok (.bipush 13, 2) := by decide +kernel
theorem dX7_set_15 : decode cX7_set 15 = .ok (.invokestatic 47, 3) := by decide +kernel
theorem dX7_set_18 : decode cX7_set 18 = .ok (.ifCond .ne 6, 3) := by decide +kernel
theorem dX7_set_21 : decode cX7_set 21 = .ok (.bipush (-102), 2) := by decide +kernel
theorem dX7_set_23 : decode cX7_set 23 = .ok (.ireturn, 1) := by decide +kernel
theorem dX7_set_24 : decode cX7_set 24 = .ok (.aload_n 0, 1) := by decide +kernel
theorem dX7_set_25 : decode cX7_set 25 = .ok (.getfield 22, 3) := by decide +kernel
theorem dX7_set_28 : decode cX7_set 28 = .ok (.iload_n 1, 1) := by decide +kernel
theorem dX7_set_29 : decode cX7_set 29 = .ok (.iaload, 1) := by decide +kernel
theorem dX7_set_30 : decode cX7_set 30 = .ok (.istore_n 3, 1) := by decide +kernel
theorem dX7_set_31 : decode cX7_set 31 = .ok (.aload_n 0, 1) := by decide +kernel
theorem dX7_set_32 : decode cX7_set 32 = .ok (.getfield 22, 3) := by decide +kernel
theorem dX7_set_35 : decode cX7_set 35 = .ok (.iload_n 1, 1) := by decide +kernel
theorem dX7_set_36 : decode cX7_set 36 = .ok (.iload_n 2, 1) := by decide +kernel
theorem dX7_set_37 : decode cX7_set 37 = .ok (.iastore, 1) := by decide +kernel
theorem dX7_set_38 : decode cX7_set 38 = .ok (.iload_n 3, 1) := by decide +kernel
theorem dX7_set_39 : decode cX7_set 39 = .ok (.ireturn, 1) := by decide +kernel
theorem dX7_cell_0 : decode cX7_cell 0 = .ok (.aload_n 0, 1) := by decide +kernel
theorem dX7_cell_1 : decode cX7_cell 1 = .ok (.invokevirtual 197, 3) := by decide +kernel
theorem dX7_cell_4 : decode cX7_cell 4 = .ok (.ifCond .eq 25, 3) := by decide +kernel
theorem dX7_cell_7 : decode cX7_cell 7 = .ok (.iload_n 1, 1) := by decide +kernel
theorem dX7_cell_8 : decode cX7_cell 8 = .ok (.iconst 0, 1) := by decide +kernel
theorem dX7_cell_9 : decode cX7_cell 9 = .ok (.aload_n 0, 1) := by decide +kernel
theorem dX7_cell_10 : decode cX7_cell 10 = .ok (.invokevirtual 185, 3) := by decide +kernel
theorem dX7_cell_13 : decode cX7_cell 13 = .ok (.iconst 1, 1) := by decide +kernel
theorem dX7_cell_14 : decode cX7_cell 14 = .ok (.isub, 1) := by decide +kernel
theorem dX7_cell_15 : decode cX7_cell 15 = .ok (.invokestatic 47, 3) := by decide +kernel
theorem dX7_cell_18 : decode cX7_cell 18 = .ok (.ifCond .eq 11, 3) := by decide +kernel
theorem dX7_cell_21 : decode cX7_cell 21 = .ok (.aload_n 0, 1) := by decide +kernel
theorem dX7_cell_22 : decode cX7_cell 22 = .ok (.iload_n 2, 1) := by decide +kernel
theorem dX7_cell_23 : decode cX7_cell 23 = .ok (.invokevirtual 242, 3) := by decide +kernel
theorem dX7_cell_26 : decode cX7_cell 26 = .ok (.ifCond .ne 6, 3) := by decide +kernel
theorem dX7_cell_29 : decode cX7_cell 29 = .ok (.bipush (-101), 2) := by decide +kernel
theorem dX7_cell_31 : decode cX7_cell 31 = .ok (.ireturn, 1) := by decide +kernel
theorem dX7_cell_32 : decode cX7_cell 32 = .ok (.iload_n 3, 1) := by decide +kernel
theorem dX7_cell_33 : decode cX7_cell 33 = .ok (.iconst 0, 1) := by decide +kernel
theorem dX7_cell_34 : decode cX7_cell 34 = .ok (.iconst 1, 1) := by decide +kernel
theorem dX7_cell_35 : decode cX7_cell 35 = .ok (.invokestatic 47, 3) := by decide +kernel
theorem dX7_cell_38 : decode cX7_cell 38 = .ok (.ifCond .ne 8, 3) := by decide +kernel
theorem dX7_cell_41 : decode cX7_cell 41 = .ok (.bipush (-102), 2) := by decide +kernel
theorem dX7_cell_43 : decode cX7_cell 43 = .ok (.goto 25, 3) := by decide +kernel
theorem dX7_cell_46 : decode cX7_cell 46 = .ok (.iload_n 3, 1) := by decide +kernel
theorem dX7_cell_47 : decode cX7_cell 47 = .ok (.ifCond .ne 12, 3) := by decide +kernel
theorem dX7_cell_50 : decode cX7_cell 50 = .ok (.aload_n 0, 1) := by decide +kernel
theorem dX7_cell_51 : decode cX7_cell 51 = .ok (.iload_n 1, 1) := by decide +kernel
theorem dX7_cell_52 : decode cX7_cell 52 = .ok (.iload_n 2, 1) := by decide +kernel
theorem dX7_cell_53 : decode cX7_cell 53 = .ok (.invokevirtual 188, 3) := by decide +kernel
theorem dX7_cell_56 : decode cX7_cell 56 = .ok (.goto 9, 3) := by decide +kernel
theorem dX7_cell_59 : decode cX7_cell 59 = .ok (.aload_n 0, 1) := by decide +kernel
theorem dX7_cell_60 : decode cX7_cell 60 = .ok (.iload_n 1, 1) := by decide +kernel
theorem dX7_cell_61 : decode cX7_cell 61 = .ok (.iload_n 2, 1) := by decide +kernel
theorem dX7_cell_62 : decode cX7_cell 62 = .ok (.invokevirtual 194, 3) := by decide +kernel
theorem dX7_cell_65 : decode cX7_cell 65 = .ok (.invokestatic 159, 3) := by decide +kernel
theorem dX7_cell_68 : decode cX7_cell 68 = .ok (.ireturn, 1) := by decide +kernel
theorem dX7_netsThere_0 : decode cX7_netsThere 0 = .ok (.iconst 0, 1) := by decide +kernel
theorem dX7_netsThere_1 : decode cX7_netsThere 1 = .ok (.istore_n 1, 1) := by decide +kernel
theorem dX7_netsThere_2 : decode cX7_netsThere 2 = .ok (.iconst 0, 1) := by decide +kernel
theorem dX7_netsThere_3 : decode cX7_netsThere 3 = .ok (.istore_n 2, 1) := by decide +kernel
theorem dX7_netsThere_4 : decode cX7_netsThere 4 = .ok (.iload_n 2, 1) := by decide +kernel
theorem dX7_netsThere_5 : decode cX7_netsThere 5 = .ok (.bipush 6, 2) := by decide +kernel
theorem dX7_netsThere_7 : decode cX7_netsThere 7 = .ok (.if_icmp .ge 25, 3) := by decide +kernel
theorem dX7_netsThere_10 : decode cX7_netsThere 10 = .ok (.iload_n 1, 1) := by decide +kernel
theorem dX7_netsThere_11 : decode cX7_netsThere 11 = .ok (.aload_n 0, 1) := by decide +kernel
theorem dX7_netsThere_12 : decode cX7_netsThere 12 = .ok (.iload_n 2, 1) := by decide +kernel
theorem dX7_netsThere_13 : decode cX7_netsThere 13 = .ok (.invokevirtual 245, 3) := by decide +kernel
theorem dX7_netsThere_16 : decode cX7_netsThere 16 = .ok (.ifCond .le 7, 3) := by decide +kernel
theorem dX7_netsThere_19 : decode cX7_netsThere 19 = .ok (.iconst 1, 1) := by decide +kernel
theorem dX7_netsThere_20 : decode cX7_netsThere 20 = .ok (.goto 4, 3) := by decide +kernel
theorem dX7_netsThere_23 : decode cX7_netsThere 23 = .ok (.iconst 0, 1) := by decide +kernel
theorem dX7_netsThere_24 : decode cX7_netsThere 24 = .ok (.iadd, 1) := by decide +kernel
theorem dX7_netsThere_25 : decode cX7_netsThere 25 = .ok (.istore_n 1, 1) := by decide +kernel
theorem dX7_netsThere_26 : decode cX7_netsThere 26 = .ok (.iinc 2 1, 3) := by decide +kernel
theorem dX7_netsThere_29 : decode cX7_netsThere 29 = .ok (.goto (-25), 3) := by decide +kernel
theorem dX7_netsThere_32 : decode cX7_netsThere 32 = .ok (.iload_n 1, 1) := by decide +kernel
theorem dX7_netsThere_33 : decode cX7_netsThere 33 = .ok (.ireturn, 1) := by decide +kernel
theorem dX7_howMany_0 : decode cX7_howMany 0 = .ok (.iload_n 1, 1) := by decide +kernel
theorem dX7_howMany_1 : decode cX7_howMany 1 = .ok (.tableswitch 107 0 8 #[51, 56, 69, 74, 82, 87, 92, 97, 102], 51) := by decide +kernel
theorem dX7_howMany_52 : decode cX7_howMany 52 = .ok (.aload_n 0, 1) := by decide +kernel
theorem dX7_howMany_53 : decode cX7_howMany 53 = .ok (.getfield 87, 3) := by decide +kernel
theorem dX7_howMany_56 : decode cX7_howMany 56 = .ok (.ireturn, 1) := by decide +kernel
theorem dX7_howMany_57 : decode cX7_howMany 57 = .ok (.iconst 2, 1) := by decide +kernel
theorem dX7_howMany_58 : decode cX7_howMany 58 = .ok (.aload_n 0, 1) := by decide +kernel
theorem dX7_howMany_59 : decode cX7_howMany 59 = .ok (.getfield 87, 3) := by decide +kernel
theorem dX7_howMany_62 : decode cX7_howMany 62 = .ok (.imul, 1) := by decide +kernel
theorem dX7_howMany_63 : decode cX7_howMany 63 = .ok (.aload_n 0, 1) := by decide +kernel
theorem dX7_howMany_64 : decode cX7_howMany 64 = .ok (.iconst (-1), 1) := by decide +kernel
theorem dX7_howMany_65 : decode cX7_howMany 65 = .ok (.invokevirtual 245, 3) := by decide +kernel
theorem dX7_howMany_68 : decode cX7_howMany 68 = .ok (.isub, 1) := by decide +kernel
theorem dX7_howMany_69 : decode cX7_howMany 69 = .ok (.ireturn, 1) := by decide +kernel
theorem dX7_howMany_70 : decode cX7_howMany 70 = .ok (.aload_n 0, 1) := by decide +kernel
theorem dX7_howMany_71 : decode cX7_howMany 71 = .ok (.invokevirtual 296, 3) := by decide +kernel
theorem dX7_howMany_74 : decode cX7_howMany 74 = .ok (.ireturn, 1) := by decide +kernel
theorem dX7_howMany_75 : decode cX7_howMany 75 = .ok (.aload_n 0, 1) := by decide +kernel
theorem dX7_howMany_76 : decode cX7_howMany 76 = .ok (.getfield 93, 3) := by decide +kernel
theorem dX7_howMany_79 : decode cX7_howMany 79 = .ok (.invokestatic 191, 3) := by decide +kernel
theorem dX7_howMany_82 : decode cX7_howMany 82 = .ok (.ireturn, 1) := by decide +kernel
theorem dX7_howMany_83 : decode cX7_howMany 83 = .ok (.aload_n 0, 1) := by decide +kernel
theorem dX7_howMany_84 : decode cX7_howMany 84 = .ok (.getfield 130, 3) := by decide +kernel
theorem dX7_howMany_87 : decode cX7_howMany 87 = .ok (.ireturn, 1) := by decide +kernel
theorem dX7_howMany_88 : decode cX7_howMany 88 = .ok (.aload_n 0, 1) := by decide +kernel
theorem dX7_howMany_89 : decode cX7_howMany 89 = .ok (.invokevirtual 275, 3) := by decide +kernel
theorem dX7_howMany_92 : decode cX7_howMany 92 = .ok (.ireturn, 1) := by decide +kernel
theorem dX7_howMany_93 : decode cX7_howMany 93 = .ok (.aload_n 0, 1) := by decide +kernel
theorem dX7_howMany_94 : decode cX7_howMany 94 = .ok (.getfield 51, 3) := by decide +kernel
theorem dX7_howMany_97 : decode cX7_howMany 97 = .ok (.ireturn, 1) := by decide +kernel
theorem dX7_howMany_98 : decode cX7_howMany 98 = .ok (.aload_n 0, 1) := by decide +kernel
theorem dX7_howMany_99 : decode cX7_howMany 99 = .ok (.getfield 96, 3) := by decide +kernel
theorem dX7_howMany_102 : decode cX7_howMany 102 = .ok (.ireturn, 1) := by decide +kernel
theorem dX7_howMany_103 : decode cX7_howMany 103 = .ok (.aload_n 0, 1) := by decide +kernel
theorem dX7_howMany_104 : decode cX7_howMany 104 = .ok (.getfield 290, 3) := by decide +kernel
theorem dX7_howMany_107 : decode cX7_howMany 107 = .ok (.ireturn, 1) := by decide +kernel
theorem dX7_howMany_108 : decode cX7_howMany 108 = .ok (.bipush (-102), 2) := by decide +kernel
theorem dX7_howMany_110 : decode cX7_howMany 110 = .ok (.ireturn, 1) := by decide +kernel
theorem dX7_count_0 : decode cX7_count 0 = .ok (.aload_n 0, 1) := by decide +kernel
theorem dX7_count_1 : decode cX7_count 1 = .ok (.iload_n 1, 1) := by decide +kernel
theorem dX7_count_2 : decode cX7_count 2 = .ok (.invokevirtual 299, 3) := by decide +kernel
theorem dX7_count_5 : decode cX7_count 5 = .ok (.ireturn, 1) := by decide +kernel
theorem dX7_mix_0 : decode cX7_mix 0 = .ok (.aload_n 0, 1) := by decide +kernel
theorem dX7_mix_1 : decode cX7_mix 1 = .ok (.ldc2_w 302, 3) := by decide +kernel
theorem dX7_mix_4 : decode cX7_mix 4 = .ok (.aload_n 0, 1) := by decide +kernel
theorem dX7_mix_5 : decode cX7_mix 5 = .ok (.getfield 304, 3) := by decide +kernel
theorem dX7_mix_8 : decode cX7_mix 8 = .ok (.lmul, 1) := by decide +kernel
theorem dX7_mix_9 : decode cX7_mix 9 = .ok (.lload_n 1, 1) := by decide +kernel
theorem dX7_mix_10 : decode cX7_mix 10 = .ok (.ladd, 1) := by decide +kernel
theorem dX7_mix_11 : decode cX7_mix 11 = .ok (.putfield 304, 3) := by decide +kernel
theorem dX7_mix_14 : decode cX7_mix 14 = .ok (.return_, 1) := by decide +kernel
theorem dX7_mixSegments_0 : decode cX7_mixSegments 0 = .ok (.iconst 0, 1) := by decide +kernel
theorem dX7_mixSegments_1 : decode cX7_mixSegments 1 = .ok (.istore_n 1, 1) := by decide +kernel
theorem dX7_mixSegments_2 : decode cX7_mixSegments 2 = .ok (.iload_n 1, 1) := by decide +kernel
theorem dX7_mixSegments_3 : decode cX7_mixSegments 3 = .ok (.bipush 7, 2) := by decide +kernel
theorem dX7_mixSegments_5 : decode cX7_mixSegments 5 = .ok (.aload_n 0, 1) := by decide +kernel
theorem dX7_mixSegments_6 : decode cX7_mixSegments 6 = .ok (.getfield 130, 3) := by decide +kernel
theorem dX7_mixSegments_9 : decode cX7_mixSegments 9 = .ok (.imul, 1) := by decide +kernel
theorem dX7_mixSegments_10 : decode cX7_mixSegments 10 = .ok (.if_icmp .ge 26, 3) := by decide +kernel
theorem dX7_mixSegments_13 : decode cX7_mixSegments 13 = .ok (.aload_n 0, 1) := by decide +kernel
theorem dX7_mixSegments_14 : decode cX7_mixSegments 14 = .ok (.aload_n 0, 1) := by decide +kernel
theorem dX7_mixSegments_15 : decode cX7_mixSegments 15 = .ok (.iload_n 1, 1) := by decide +kernel
theorem dX7_mixSegments_16 : decode cX7_mixSegments 16 = .ok (.bipush 7, 2) := by decide +kernel
theorem dX7_mixSegments_18 : decode cX7_mixSegments 18 = .ok (.idiv, 1) := by decide +kernel
theorem dX7_mixSegments_19 : decode cX7_mixSegments 19 = .ok (.iload_n 1, 1) := by decide +kernel
theorem dX7_mixSegments_20 : decode cX7_mixSegments 20 = .ok (.bipush 7, 2) := by decide +kernel
theorem dX7_mixSegments_22 : decode cX7_mixSegments 22 = .ok (.irem, 1) := by decide +kernel
theorem dX7_mixSegments_23 : decode cX7_mixSegments 23 = .ok (.invokevirtual 269, 3) := by decide +kernel
theorem dX7_mixSegments_26 : decode cX7_mixSegments 26 = .ok (.i2l, 1) := by decide +kernel
theorem dX7_mixSegments_27 : decode cX7_mixSegments 27 = .ok (.invokevirtual 308, 3) := by decide +kernel
theorem dX7_mixSegments_30 : decode cX7_mixSegments 30 = .ok (.iinc 1 1, 3) := by decide +kernel
theorem dX7_mixSegments_33 : decode cX7_mixSegments 33 = .ok (.goto (-31), 3) := by decide +kernel
theorem dX7_mixSegments_36 : decode cX7_mixSegments 36 = .ok (.iconst 0, 1) := by decide +kernel
theorem dX7_mixSegments_37 : decode cX7_mixSegments 37 = .ok (.istore_n 1, 1) := by decide +kernel
theorem dX7_mixSegments_38 : decode cX7_mixSegments 38 = .ok (.iload_n 1, 1) := by decide +kernel
theorem dX7_mixSegments_39 : decode cX7_mixSegments 39 = .ok (.aload_n 0, 1) := by decide +kernel
theorem dX7_mixSegments_40 : decode cX7_mixSegments 40 = .ok (.getfield 156, 3) := by decide +kernel
theorem dX7_mixSegments_43 : decode cX7_mixSegments 43 = .ok (.if_icmp .ge 20, 3) := by decide +kernel
theorem dX7_mixSegments_46 : decode cX7_mixSegments 46 = .ok (.aload_n 0, 1) := by decide +kernel
theorem dX7_mixSegments_47 : decode cX7_mixSegments 47 = .ok (.aload_n 0, 1) := by decide +kernel
theorem dX7_mixSegments_48 : decode cX7_mixSegments 48 = .ok (.getfield 31, 3) := by decide +kernel
theorem dX7_mixSegments_51 : decode cX7_mixSegments 51 = .ok (.iload_n 1, 1) := by decide +kernel
theorem dX7_mixSegments_52 : decode cX7_mixSegments 52 = .ok (.iaload, 1) := by decide +kernel
theorem dX7_mixSegments_53 : decode cX7_mixSegments 53 = .ok (.i2l, 1) := by decide +kernel
theorem dX7_mixSegments_54 : decode cX7_mixSegments 54 = .ok (.invokevirtual 308, 3) := by decide +kernel
theorem dX7_mixSegments_57 : decode cX7_mixSegments 57 = .ok (.iinc 1 1, 3) := by decide +kernel
theorem dX7_mixSegments_60 : decode cX7_mixSegments 60 = .ok (.goto (-22), 3) := by decide +kernel
theorem dX7_mixSegments_63 : decode cX7_mixSegments 63 = .ok (.aload_n 0, 1) := by decide +kernel
theorem dX7_mixSegments_64 : decode cX7_mixSegments 64 = .ok (.iconst (-1), 1) := by decide +kernel
theorem dX7_mixSegments_65 : decode cX7_mixSegments 65 = .ok (.invokevirtual 230, 3) := by decide +kernel
theorem dX7_mixSegments_68 : decode cX7_mixSegments 68 = .ok (.istore_n 1, 1) := by decide +kernel
theorem dX7_mixSegments_69 : decode cX7_mixSegments 69 = .ok (.iconst 0, 1) := by decide +kernel
theorem dX7_mixSegments_70 : decode cX7_mixSegments 70 = .ok (.istore_n 2, 1) := by decide +kernel
theorem dX7_mixSegments_71 : decode cX7_mixSegments 71 = .ok (.iload_n 2, 1) := by decide +kernel
theorem dX7_mixSegments_72 : decode cX7_mixSegments 72 = .ok (.iload_n 1, 1) := by decide +kernel
theorem dX7_mixSegments_73 : decode cX7_mixSegments 73 = .ok (.if_icmp .ge 19, 3) := by decide +kernel
theorem dX7_mixSegments_76 : decode cX7_mixSegments 76 = .ok (.aload_n 0, 1) := by decide +kernel
theorem dX7_mixSegments_77 : decode cX7_mixSegments 77 = .ok (.aload_n 0, 1) := by decide +kernel
theorem dX7_mixSegments_78 : decode cX7_mixSegments 78 = .ok (.iload_n 2, 1) := by decide +kernel
theorem dX7_mixSegments_79 : decode cX7_mixSegments 79 = .ok (.invokevirtual 230, 3) := by decide +kernel
theorem dX7_mixSegments_82 : decode cX7_mixSegments 82 = .ok (.i2l, 1) := by decide +kernel
theorem dX7_mixSegments_83 : decode cX7_mixSegments 83 = .ok (.invokevirtual 308, 3) := by decide +kernel
theorem dX7_mixSegments_86 : decode cX7_mixSegments 86 = .ok (.iinc 2 1, 3) := by decide +kernel
theorem dX7_mixSegments_89 : decode cX7_mixSegments 89 = .ok (.goto (-18), 3) := by decide +kernel
theorem dX7_mixSegments_92 : decode cX7_mixSegments 92 = .ok (.return_, 1) := by decide +kernel
theorem dX7_mixChannel_0 : decode cX7_mixChannel 0 = .ok (.iconst 0, 1) := by decide +kernel
theorem dX7_mixChannel_1 : decode cX7_mixChannel 1 = .ok (.istore_n 1, 1) := by decide +kernel
theorem dX7_mixChannel_2 : decode cX7_mixChannel 2 = .ok (.iload_n 1, 1) := by decide +kernel
theorem dX7_mixChannel_3 : decode cX7_mixChannel 3 = .ok (.bipush 10, 2) := by decide +kernel
theorem dX7_mixChannel_5 : decode cX7_mixChannel 5 = .ok (.if_icmp .ge 19, 3) := by decide +kernel
theorem dX7_mixChannel_8 : decode cX7_mixChannel 8 = .ok (.aload_n 0, 1) := by decide +kernel
theorem dX7_mixChannel_9 : decode cX7_mixChannel 9 = .ok (.aload_n 0, 1) := by decide +kernel
theorem dX7_mixChannel_10 : decode cX7_mixChannel 10 = .ok (.iload_n 1, 1) := by decide +kernel
theorem dX7_mixChannel_11 : decode cX7_mixChannel 11 = .ok (.invokevirtual 239, 3) := by decide +kernel
theorem dX7_mixChannel_14 : decode cX7_mixChannel 14 = .ok (.i2l, 1) := by decide +kernel
theorem dX7_mixChannel_15 : decode cX7_mixChannel 15 = .ok (.invokevirtual 308, 3) := by decide +kernel
theorem dX7_mixChannel_18 : decode cX7_mixChannel 18 = .ok (.iinc 1 1, 3) := by decide +kernel
theorem dX7_mixChannel_21 : decode cX7_mixChannel 21 = .ok (.goto (-19), 3) := by decide +kernel
theorem dX7_mixChannel_24 : decode cX7_mixChannel 24 = .ok (.iconst 0, 1) := by decide +kernel
theorem dX7_mixChannel_25 : decode cX7_mixChannel 25 = .ok (.istore_n 1, 1) := by decide +kernel
theorem dX7_mixChannel_26 : decode cX7_mixChannel 26 = .ok (.iload_n 1, 1) := by decide +kernel
theorem dX7_mixChannel_27 : decode cX7_mixChannel 27 = .ok (.iconst 2, 1) := by decide +kernel
theorem dX7_mixChannel_28 : decode cX7_mixChannel 28 = .ok (.aload_n 0, 1) := by decide +kernel
theorem dX7_mixChannel_29 : decode cX7_mixChannel 29 = .ok (.getfield 87, 3) := by decide +kernel
theorem dX7_mixChannel_32 : decode cX7_mixChannel 32 = .ok (.imul, 1) := by decide +kernel
theorem dX7_mixChannel_33 : decode cX7_mixChannel 33 = .ok (.if_icmp .ge 20, 3) := by decide +kernel
theorem dX7_mixChannel_36 : decode cX7_mixChannel 36 = .ok (.aload_n 0, 1) := by decide +kernel
theorem dX7_mixChannel_37 : decode cX7_mixChannel 37 = .ok (.aload_n 0, 1) := by decide +kernel
theorem dX7_mixChannel_38 : decode cX7_mixChannel 38 = .ok (.getfield 7, 3) := by decide +kernel
theorem dX7_mixChannel_41 : decode cX7_mixChannel 41 = .ok (.iload_n 1, 1) := by decide +kernel
theorem dX7_mixChannel_42 : decode cX7_mixChannel 42 = .ok (.iaload, 1) := by decide +kernel
theorem dX7_mixChannel_43 : decode cX7_mixChannel 43 = .ok (.i2l, 1) := by decide +kernel
theorem dX7_mixChannel_44 : decode cX7_mixChannel 44 = .ok (.invokevirtual 308, 3) := by decide +kernel
theorem dX7_mixChannel_47 : decode cX7_mixChannel 47 = .ok (.iinc 1 1, 3) := by decide +kernel
theorem dX7_mixChannel_50 : decode cX7_mixChannel 50 = .ok (.goto (-24), 3) := by decide +kernel
theorem dX7_mixChannel_53 : decode cX7_mixChannel 53 = .ok (.iconst 0, 1) := by decide +kernel
theorem dX7_mixChannel_54 : decode cX7_mixChannel 54 = .ok (.istore_n 1, 1) := by decide +kernel
theorem dX7_mixChannel_55 : decode cX7_mixChannel 55 = .ok (.iload_n 1, 1) := by decide +kernel
theorem dX7_mixChannel_56 : decode cX7_mixChannel 56 = .ok (.bipush 6, 2) := by decide +kernel
theorem dX7_mixChannel_58 : decode cX7_mixChannel 58 = .ok (.if_icmp .ge 22, 3) := by decide +kernel
theorem dX7_mixChannel_61 : decode cX7_mixChannel 61 = .ok (.aload_n 0, 1) := by decide +kernel
theorem dX7_mixChannel_62 : decode cX7_mixChannel 62 = .ok (.aload_n 0, 1) := by decide +kernel
theorem dX7_mixChannel_63 : decode cX7_mixChannel 63 = .ok (.getfield 93, 3) := by decide +kernel
theorem dX7_mixChannel_66 : decode cX7_mixChannel 66 = .ok (.iload_n 1, 1) := by decide +kernel
theorem dX7_mixChannel_67 : decode cX7_mixChannel 67 = .ok (.ishr, 1) := by decide +kernel
theorem dX7_mixChannel_68 : decode cX7_mixChannel 68 = .ok (.iconst 1, 1) := by decide +kernel
theorem dX7_mixChannel_69 : decode cX7_mixChannel 69 = .ok (.iand, 1) := by decide +kernel
theorem dX7_mixChannel_70 : decode cX7_mixChannel 70 = .ok (.i2l, 1) := by decide +kernel
theorem dX7_mixChannel_71 : decode cX7_mixChannel 71 = .ok (.invokevirtual 308, 3) := by decide +kernel
theorem dX7_mixChannel_74 : decode cX7_mixChannel 74 = .ok (.iinc 1 1, 3) := by decide +kernel
theorem dX7_mixChannel_77 : decode cX7_mixChannel 77 = .ok (.goto (-22), 3) := by decide +kernel
theorem dX7_mixChannel_80 : decode cX7_mixChannel 80 = .ok (.aload_n 0, 1) := by decide +kernel
theorem dX7_mixChannel_81 : decode cX7_mixChannel 81 = .ok (.invokevirtual 312, 3) := by decide +kernel
theorem dX7_mixChannel_84 : decode cX7_mixChannel 84 = .ok (.aload_n 0, 1) := by decide +kernel
theorem dX7_mixChannel_85 : decode cX7_mixChannel 85 = .ok (.invokevirtual 200, 3) := by decide +kernel
theorem dX7_mixChannel_88 : decode cX7_mixChannel 88 = .ok (.istore_n 1, 1) := by decide +kernel
theorem dX7_mixChannel_89 : decode cX7_mixChannel 89 = .ok (.iconst 0, 1) := by decide +kernel
theorem dX7_mixChannel_90 : decode cX7_mixChannel 90 = .ok (.istore_n 2, 1) := by decide +kernel
theorem dX7_mixChannel_91 : decode cX7_mixChannel 91 = .ok (.iload_n 2, 1) := by decide +kernel
theorem dX7_mixChannel_92 : decode cX7_mixChannel 92 = .ok (.iload_n 1, 1) := by decide +kernel
theorem dX7_mixChannel_93 : decode cX7_mixChannel 93 = .ok (.if_icmp .ge 19, 3) := by decide +kernel
theorem dX7_mixChannel_96 : decode cX7_mixChannel 96 = .ok (.aload_n 0, 1) := by decide +kernel
theorem dX7_mixChannel_97 : decode cX7_mixChannel 97 = .ok (.aload_n 0, 1) := by decide +kernel
theorem dX7_mixChannel_98 : decode cX7_mixChannel 98 = .ok (.iload_n 2, 1) := by decide +kernel
theorem dX7_mixChannel_99 : decode cX7_mixChannel 99 = .ok (.invokevirtual 203, 3) := by decide +kernel
theorem dX7_mixChannel_102 : decode cX7_mixChannel 102 = .ok (.i2l, 1) := by decide +kernel
theorem dX7_mixChannel_103 : decode cX7_mixChannel 103 = .ok (.invokevirtual 308, 3) := by decide +kernel
theorem dX7_mixChannel_106 : decode cX7_mixChannel 106 = .ok (.iinc 2 1, 3) := by decide +kernel
theorem dX7_mixChannel_109 : decode cX7_mixChannel 109 = .ok (.goto (-18), 3) := by decide +kernel
theorem dX7_mixChannel_112 : decode cX7_mixChannel 112 = .ok (.aload_n 0, 1) := by decide +kernel
theorem dX7_mixChannel_113 : decode cX7_mixChannel 113 = .ok (.invokevirtual 185, 3) := by decide +kernel
theorem dX7_mixChannel_116 : decode cX7_mixChannel 116 = .ok (.aload_n 0, 1) := by decide +kernel
theorem dX7_mixChannel_117 : decode cX7_mixChannel 117 = .ok (.getfield 87, 3) := by decide +kernel
theorem dX7_mixChannel_120 : decode cX7_mixChannel 120 = .ok (.imul, 1) := by decide +kernel
theorem dX7_mixChannel_121 : decode cX7_mixChannel 121 = .ok (.istore_n 2, 1) := by decide +kernel
theorem dX7_mixChannel_122 : decode cX7_mixChannel 122 = .ok (.iconst 0, 1) := by decide +kernel
theorem dX7_mixChannel_123 : decode cX7_mixChannel 123 = .ok (.istore_n 3, 1) := by decide +kernel
theorem dX7_mixChannel_124 : decode cX7_mixChannel 124 = .ok (.iload_n 3, 1) := by decide +kernel
theorem dX7_mixChannel_125 : decode cX7_mixChannel 125 = .ok (.iload_n 2, 1) := by decide +kernel
theorem dX7_mixChannel_126 : decode cX7_mixChannel 126 = .ok (.if_icmp .ge 33, 3) := by decide +kernel
theorem dX7_mixChannel_129 : decode cX7_mixChannel 129 = .ok (.aload_n 0, 1) := by decide +kernel
theorem dX7_mixChannel_130 : decode cX7_mixChannel 130 = .ok (.aload_n 0, 1) := by decide +kernel
theorem dX7_mixChannel_131 : decode cX7_mixChannel 131 = .ok (.iload_n 3, 1) := by decide +kernel
theorem dX7_mixChannel_132 : decode cX7_mixChannel 132 = .ok (.aload_n 0, 1) := by decide +kernel
theorem dX7_mixChannel_133 : decode cX7_mixChannel 133 = .ok (.getfield 87, 3) := by decide +kernel
theorem dX7_mixChannel_136 : decode cX7_mixChannel 136 = .ok (.idiv, 1) := by decide +kernel
theorem dX7_mixChannel_137 : decode cX7_mixChannel 137 = .ok (.iload_n 3, 1) := by decide +kernel
theorem dX7_mixChannel_138 : decode cX7_mixChannel 138 = .ok (.aload_n 0, 1) := by decide +kernel
theorem dX7_mixChannel_139 : decode cX7_mixChannel 139 = .ok (.getfield 87, 3) := by decide +kernel
theorem dX7_mixChannel_142 : decode cX7_mixChannel 142 = .ok (.irem, 1) := by decide +kernel
theorem dX7_mixChannel_143 : decode cX7_mixChannel 143 = .ok (.invokevirtual 194, 3) := by decide +kernel
theorem dX7_mixChannel_146 : decode cX7_mixChannel 146 = .ok (.invokestatic 159, 3) := by decide +kernel
theorem dX7_mixChannel_149 : decode cX7_mixChannel 149 = .ok (.i2l, 1) := by decide +kernel
theorem dX7_mixChannel_150 : decode cX7_mixChannel 150 = .ok (.invokevirtual 308, 3) := by decide +kernel
theorem dX7_mixChannel_153 : decode cX7_mixChannel 153 = .ok (.iinc 3 1, 3) := by decide +kernel
theorem dX7_mixChannel_156 : decode cX7_mixChannel 156 = .ok (.goto (-32), 3) := by decide +kernel
theorem dX7_mixChannel_159 : decode cX7_mixChannel 159 = .ok (.return_, 1) := by decide +kernel
theorem dX7_digest_0 : decode cX7_digest 0 = .ok (.aload_n 0, 1) := by decide +kernel
theorem dX7_digest_1 : decode cX7_digest 1 = .ok (.ldc2_w 315, 3) := by decide +kernel
theorem dX7_digest_4 : decode cX7_digest 4 = .ok (.putfield 304, 3) := by decide +kernel
theorem dX7_digest_7 : decode cX7_digest 7 = .ok (.aload_n 0, 1) := by decide +kernel
theorem dX7_digest_8 : decode cX7_digest 8 = .ok (.invokevirtual 197, 3) := by decide +kernel
theorem dX7_digest_11 : decode cX7_digest 11 = .ok (.ifCond .eq 7, 3) := by decide +kernel
theorem dX7_digest_14 : decode cX7_digest 14 = .ok (.aload_n 0, 1) := by decide +kernel
theorem dX7_digest_15 : decode cX7_digest 15 = .ok (.invokevirtual 317, 3) := by decide +kernel
theorem dX7_digest_18 : decode cX7_digest 18 = .ok (.iconst 0, 1) := by decide +kernel
theorem dX7_digest_19 : decode cX7_digest 19 = .ok (.istore_n 1, 1) := by decide +kernel
theorem dX7_digest_20 : decode cX7_digest 20 = .ok (.iload_n 1, 1) := by decide +kernel
theorem dX7_digest_21 : decode cX7_digest 21 = .ok (.aload_n 0, 1) := by decide +kernel
theorem dX7_digest_22 : decode cX7_digest 22 = .ok (.getfield 51, 3) := by decide +kernel
theorem dX7_digest_25 : decode cX7_digest 25 = .ok (.if_icmp .ge 20, 3) := by decide +kernel
theorem dX7_digest_28 : decode cX7_digest 28 = .ok (.aload_n 0, 1) := by decide +kernel
theorem dX7_digest_29 : decode cX7_digest 29 = .ok (.aload_n 0, 1) := by decide +kernel
theorem dX7_digest_30 : decode cX7_digest 30 = .ok (.getfield 34, 3) := by decide +kernel
theorem dX7_digest_33 : decode cX7_digest 33 = .ok (.iload_n 1, 1) := by decide +kernel
theorem dX7_digest_34 : decode cX7_digest 34 = .ok (.iaload, 1) := by decide +kernel
theorem dX7_digest_35 : decode cX7_digest 35 = .ok (.i2l, 1) := by decide +kernel
theorem dX7_digest_36 : decode cX7_digest 36 = .ok (.invokevirtual 308, 3) := by decide +kernel
theorem dX7_digest_39 : decode cX7_digest 39 = .ok (.iinc 1 1, 3) := by decide +kernel
theorem dX7_digest_42 : decode cX7_digest 42 = .ok (.goto (-22), 3) := by decide +kernel
theorem dX7_digest_45 : decode cX7_digest 45 = .ok (.iconst 0, 1) := by decide +kernel
theorem dX7_digest_46 : decode cX7_digest 46 = .ok (.istore_n 1, 1) := by decide +kernel
theorem dX7_digest_47 : decode cX7_digest 47 = .ok (.iload_n 1, 1) := by decide +kernel
theorem dX7_digest_48 : decode cX7_digest 48 = .ok (.bipush 9, 2) := by decide +kernel
theorem dX7_digest_50 : decode cX7_digest 50 = .ok (.if_icmp .ge 19, 3) := by decide +kernel
theorem dX7_digest_53 : decode cX7_digest 53 = .ok (.aload_n 0, 1) := by decide +kernel
theorem dX7_digest_54 : decode cX7_digest 54 = .ok (.aload_n 0, 1) := by decide +kernel
theorem dX7_digest_55 : decode cX7_digest 55 = .ok (.iload_n 1, 1) := by decide +kernel
theorem dX7_digest_56 : decode cX7_digest 56 = .ok (.invokevirtual 299, 3) := by decide +kernel
theorem dX7_digest_59 : decode cX7_digest 59 = .ok (.i2l, 1) := by decide +kernel
theorem dX7_digest_60 : decode cX7_digest 60 = .ok (.invokevirtual 308, 3) := by decide +kernel
theorem dX7_digest_63 : decode cX7_digest 63 = .ok (.iinc 1 1, 3) := by decide +kernel
theorem dX7_digest_66 : decode cX7_digest 66 = .ok (.goto (-19), 3) := by decide +kernel
theorem dX7_digest_69 : decode cX7_digest 69 = .ok (.aload_n 0, 1) := by decide +kernel
theorem dX7_digest_70 : decode cX7_digest 70 = .ok (.getfield 304, 3) := by decide +kernel
theorem dX7_digest_73 : decode cX7_digest 73 = .ok (.lreturn, 1) := by decide +kernel
