theorem dX7_channel_93 : decode cX7_channel 93 = .ok (.iadd, 1) := by decide +kernel
theorem dX7_channel_94 : decode cX7_channel 94 = .ok (.putfield 96, 3) := by decide +kernel
theorem dX7_channel_97 : decode cX7_channel 97 = .ok (.aload_n 0, 1) := by decide +kernel
theorem dX7_channel_98 : decode cX7_channel 98 = .ok (.iconst 0, 1) := by decide +kernel
theorem dX7_channel_99 : decode cX7_channel 99 = .ok (.putfield 51, 3) := by decide +kernel
theorem dX7_channel_102 : decode cX7_channel 102 = .ok (.aload_n 0, 1) := by decide +kernel
theorem dX7_channel_103 : decode cX7_channel 103 = .ok (.invokevirtual 99, 3) := by decide +kernel
theorem dX7_channel_106 : decode cX7_channel 106 = .ok (.aload_n 0, 1) := by decide +kernel
theorem dX7_channel_107 : decode cX7_channel 107 = .ok (.getfield 87, 3) := by decide +kernel
theorem dX7_channel_110 : decode cX7_channel 110 = .ok (.ireturn, 1) := by decide +kernel
theorem dX7_isThere_0 : decode cX7_isThere 0 = .ok (.aload_n 0, 1) := by decide +kernel
theorem dX7_isThere_1 : decode cX7_isThere 1 = .ok (.getfield 87, 3) := by decide +kernel
theorem dX7_isThere_4 : decode cX7_isThere 4 = .ok (.ifCond .le 7, 3) := by decide +kernel
theorem dX7_isThere_7 : decode cX7_isThere 7 = .ok (.iconst 1, 1) := by decide +kernel
theorem dX7_isThere_8 : decode cX7_isThere 8 = .ok (.goto 4, 3) := by decide +kernel
theorem dX7_isThere_11 : decode cX7_isThere 11 = .ok (.iconst 0, 1) := by decide +kernel
theorem dX7_isThere_12 : decode cX7_isThere 12 = .ok (.ireturn, 1) := by decide +kernel
theorem dX7_withTrack_0 : decode cX7_withTrack 0 = .ok (.iconst 0, 1) := by decide +kernel
theorem dX7_withTrack_1 : decode cX7_withTrack 1 = .ok (.istore_n 1, 1) := by decide +kernel
theorem dX7_withTrack_2 : decode cX7_withTrack 2 = .ok (.iconst 0, 1) := by decide +kernel
theorem dX7_withTrack_3 : decode cX7_withTrack 3 = .ok (.istore_n 2, 1) := by decide +kernel
theorem dX7_withTrack_4 : decode cX7_withTrack 4 = .ok (.iload_n 2, 1) := by decide +kernel
theorem dX7_withTrack_5 : decode cX7_withTrack 5 = .ok (.aload_n 0, 1) := by decide +kernel
theorem dX7_withTrack_6 : decode cX7_withTrack 6 = .ok (.getfield 130, 3) := by decide +kernel
theorem dX7_withTrack_9 : decode cX7_withTrack 9 = .ok (.if_icmp .ge 27, 3) := by decide +kernel
theorem dX7_withTrack_12 : decode cX7_withTrack 12 = .ok (.iload_n 1, 1) := by decide +kernel
theorem dX7_withTrack_13 : decode cX7_withTrack 13 = .ok (.aload_n 0, 1) := by decide +kernel
theorem dX7_withTrack_14 : decode cX7_withTrack 14 = .ok (.getfield 22, 3) := by decide +kernel
theorem dX7_withTrack_17 : decode cX7_withTrack 17 = .ok (.iload_n 2, 1) := by decide +kernel
theorem dX7_withTrack_18 : decode cX7_withTrack 18 = .ok (.iaload, 1) := by decide +kernel
theorem dX7_withTrack_19 : decode cX7_withTrack 19 = .ok (.iconst (-1), 1) := by decide +kernel
theorem dX7_withTrack_20 : decode cX7_withTrack 20 = .ok (.if_icmp .ne 7, 3) := by decide +kernel
theorem dX7_withTrack_23 : decode cX7_withTrack 23 = .ok (.iconst 0, 1) := by decide +kernel
theorem dX7_withTrack_24 : decode cX7_withTrack 24 = .ok (.goto 4, 3) := by decide +kernel
theorem dX7_withTrack_27 : decode cX7_withTrack 27 = .ok (.iconst 1, 1) := by decide +kernel
theorem dX7_withTrack_28 : decode cX7_withTrack 28 = .ok (.iadd, 1) := by decide +kernel
theorem dX7_withTrack_29 : decode cX7_withTrack 29 = .ok (.istore_n 1, 1) := by decide +kernel
theorem dX7_withTrack_30 : decode cX7_withTrack 30 = .ok (.iinc 2 1, 3) := by decide +kernel
theorem dX7_withTrack_33 : decode cX7_withTrack 33 = .ok (.goto (-29), 3) := by decide +kernel
theorem dX7_withTrack_36 : decode cX7_withTrack 36 = .ok (.iload_n 1, 1) := by decide +kernel
theorem dX7_withTrack_37 : decode cX7_withTrack 37 = .ok (.ireturn, 1) := by decide +kernel
theorem dX7_clearNow_0 : decode cX7_clearNow 0 = .ok (.aload_n 0, 1) := by decide +kernel
theorem dX7_clearNow_1 : decode cX7_clearNow 1 = .ok (.invokevirtual 275, 3) := by decide +kernel
theorem dX7_clearNow_4 : decode cX7_clearNow 4 = .ok (.istore_n 1, 1) := by decide +kernel
theorem dX7_clearNow_5 : decode cX7_clearNow 5 = .ok (.iconst 0, 1) := by decide +kernel
theorem dX7_clearNow_6 : decode cX7_clearNow 6 = .ok (.istore_n 2, 1) := by decide +kernel
theorem dX7_clearNow_7 : decode cX7_clearNow 7 = .ok (.iload_n 2, 1) := by decide +kernel
theorem dX7_clearNow_8 : decode cX7_clearNow 8 = .ok (.bipush 14, 2) := by decide +kernel
theorem dX7_clearNow_10 : decode cX7_clearNow 10 = .ok (.if_icmp .ge 16, 3) := by decide +kernel
theorem dX7_clearNow_13 : decode cX7_clearNow 13 = .ok (.aload_n 0, 1) := by decide +kernel
theorem dX7_clearNow_14 : decode cX7_clearNow 14 = .ok (.getfield 22, 3) := by decide +kernel
theorem dX7_clearNow_17 : decode cX7_clearNow 17 = .ok (.iload_n 2, 1) := by decide +kernel
theorem dX7_clearNow_18 : decode cX7_clearNow 18 = .ok (.iconst (-1), 1) := by decide +kernel
theorem dX7_clearNow_19 : decode cX7_clearNow 19 = .ok (.iastore, 1) := by decide +kernel
theorem dX7_clearNow_20 : decode cX7_clearNow 20 = .ok (.iinc 2 1, 3) := by decide +kernel
theorem dX7_clearNow_23 : decode cX7_clearNow 23 = .ok (.goto (-16), 3) := by decide +kernel
theorem dX7_clearNow_26 : decode cX7_clearNow 26 = .ok (.iload_n 1, 1) := by decide +kernel
theorem dX7_clearNow_27 : decode cX7_clearNow 27 = .ok (.ireturn, 1) := by decide +kernel
theorem dX7_isMet_0 : decode cX7_isMet 0 = .ok (.aload_n 0, 1) := by decide +kernel
theorem dX7_isMet_1 : decode cX7_isMet 1 = .ok (.getfield 13, 3) := by decide +kernel
theorem dX7_isMet_4 : decode cX7_isMet 4 = .ok (.iload_n 1, 1) := by decide +kernel
theorem dX7_isMet_5 : decode cX7_isMet 5 = .ok (.iaload, 1) := by decide +kernel
theorem dX7_isMet_6 : decode cX7_isMet 6 = .ok (.aload_n 0, 1) := by decide +kernel
theorem dX7_isMet_7 : decode cX7_isMet 7 = .ok (.getfield 13, 3) := by decide +kernel
theorem dX7_isMet_10 : decode cX7_isMet 10 = .ok (.iload_n 2, 1) := by decide +kernel
theorem dX7_isMet_11 : decode cX7_isMet 11 = .ok (.iaload, 1) := by decide +kernel
theorem dX7_isMet_12 : decode cX7_isMet 12 = .ok (.if_icmp .eq 37, 3) := by decide +kernel
theorem dX7_isMet_15 : decode cX7_isMet 15 = .ok (.aload_n 0, 1) := by decide +kernel
theorem dX7_isMet_16 : decode cX7_isMet 16 = .ok (.getfield 16, 3) := by decide +kernel
theorem dX7_isMet_19 : decode cX7_isMet 19 = .ok (.iload_n 1, 1) := by decide +kernel
theorem dX7_isMet_20 : decode cX7_isMet 20 = .ok (.iaload, 1) := by decide +kernel
theorem dX7_isMet_21 : decode cX7_isMet 21 = .ok (.aload_n 0, 1) := by decide +kernel
theorem dX7_isMet_22 : decode cX7_isMet 22 = .ok (.getfield 19, 3) := by decide +kernel
theorem dX7_isMet_25 : decode cX7_isMet 25 = .ok (.iload_n 2, 1) := by decide +kernel
theorem dX7_isMet_26 : decode cX7_isMet 26 = .ok (.iaload, 1) := by decide +kernel
theorem dX7_isMet_27 : decode cX7_isMet 27 = .ok (.if_icmp .gt 22, 3) := by decide +kernel
theorem dX7_isMet_30 : decode cX7_isMet 30 = .ok (.aload_n 0, 1) := by decide +kernel
theorem dX7_isMet_31 : decode cX7_isMet 31 = .ok (.getfield 16, 3) := by decide +kernel
theorem dX7_isMet_34 : decode cX7_isMet 34 = .ok (.iload_n 2, 1) := by decide +kernel
theorem dX7_isMet_35 : decode cX7_isMet 35 = .ok (.iaload, 1) := by decide +kernel
theorem dX7_isMet_36 : decode cX7_isMet 36 = .ok (.aload_n 0, 1) := by decide +kernel
theorem dX7_isMet_37 : decode cX7_isMet 37 = .ok (.getfield 19, 3) := by decide +kernel
theorem dX7_isMet_40 : decode cX7_isMet 40 = .ok (.iload_n 1, 1) := by decide +kernel
theorem dX7_isMet_41 : decode cX7_isMet 41 = .ok (.iaload, 1) := by decide +kernel
theorem dX7_isMet_42 : decode cX7_isMet 42 = .ok (.if_icmp .gt 7, 3) := by decide +kernel
theorem dX7_isMet_45 : decode cX7_isMet 45 = .ok (.iconst 1, 1) := by decide +kernel
theorem dX7_isMet_46 : decode cX7_isMet 46 = .ok (.goto 4, 3) := by decide +kernel
theorem dX7_isMet_49 : decode cX7_isMet 49 = .ok (.iconst 0, 1) := by decide +kernel
theorem dX7_isMet_50 : decode cX7_isMet 50 = .ok (.ireturn, 1) := by decide +kernel
theorem dX7_mayCome_0 : decode cX7_mayCome 0 = .ok (.aload_n 0, 1) := by decide +kernel
theorem dX7_mayCome_1 : decode cX7_mayCome 1 = .ok (.getfield 22, 3) := by decide +kernel
theorem dX7_mayCome_4 : decode cX7_mayCome 4 = .ok (.iload_n 1, 1) := by decide +kernel
theorem dX7_mayCome_5 : decode cX7_mayCome 5 = .ok (.iaload, 1) := by decide +kernel
theorem dX7_mayCome_6 : decode cX7_mayCome 6 = .ok (.iconst (-1), 1) := by decide +kernel
theorem dX7_mayCome_7 : decode cX7_mayCome 7 = .ok (.if_icmp .ne 7, 3) := by decide +kernel
theorem dX7_mayCome_10 : decode cX7_mayCome 10 = .ok (.iconst 1, 1) := by decide +kernel
theorem dX7_mayCome_11 : decode cX7_mayCome 11 = .ok (.goto 4, 3) := by decide +kernel
theorem dX7_mayCome_14 : decode cX7_mayCome 14 = .ok (.iconst 0, 1) := by decide +kernel
theorem dX7_mayCome_15 : decode cX7_mayCome 15 = .ok (.istore_n 3, 1) := by decide +kernel
theorem dX7_mayCome_16 : decode cX7_mayCome 16 = .ok (.iconst 0, 1) := by decide +kernel
theorem dX7_mayCome_17 : decode cX7_mayCome 17 = .ok (.istore 4, 2) := by decide +kernel
theorem dX7_mayCome_19 : decode cX7_mayCome 19 = .ok (.iload 4, 2) := by decide +kernel
theorem dX7_mayCome_21 : decode cX7_mayCome 21 = .ok (.aload_n 0, 1) := by decide +kernel
theorem dX7_mayCome_22 : decode cX7_mayCome 22 = .ok (.getfield 130, 3) := by decide +kernel
theorem dX7_mayCome_25 : decode cX7_mayCome 25 = .ok (.if_icmp .ge 86, 3) := by decide +kernel
theorem dX7_mayCome_28 : decode cX7_mayCome 28 = .ok (.iload_n 3, 1) := by decide +kernel
theorem dX7_mayCome_29 : decode cX7_mayCome 29 = .ok (.ifCond .eq 28, 3) := by decide +kernel
theorem dX7_mayCome_32 : decode cX7_mayCome 32 = .ok (.aload_n 0, 1) := by decide +kernel
theorem dX7_mayCome_33 : decode cX7_mayCome 33 = .ok (.getfield 22, 3) := by decide +kernel
theorem dX7_mayCome_36 : decode cX7_mayCome 36 = .ok (.iload 4, 2) := by decide +kernel
theorem dX7_mayCome_38 : decode cX7_mayCome 38 = .ok (.iaload, 1) := by decide +kernel
theorem dX7_mayCome_39 : decode cX7_mayCome 39 = .ok (.iload_n 2, 1) := by decide +kernel
theorem dX7_mayCome_40 : decode cX7_mayCome 40 = .ok (.if_icmp .ne 13, 3) := by decide +kernel
theorem dX7_mayCome_43 : decode cX7_mayCome 43 = .ok (.aload_n 0, 1) := by decide +kernel
theorem dX7_mayCome_44 : decode cX7_mayCome 44 = .ok (.iload 4, 2) := by decide +kernel
theorem dX7_mayCome_46 : decode cX7_mayCome 46 = .ok (.iload_n 1, 1) := by decide +kernel
theorem dX7_mayCome_47 : decode cX7_mayCome 47 = .ok (.invokevirtual 179, 3) := by decide +kernel
theorem dX7_mayCome_50 : decode cX7_mayCome 50 = .ok (.ifCond .ne 7, 3) := by decide +kernel
theorem dX7_mayCome_53 : decode cX7_mayCome 53 = .ok (.iconst 1, 1) := by decide +kernel
theorem dX7_mayCome_54 : decode cX7_mayCome 54 = .ok (.goto 4, 3) := by decide +kernel
theorem dX7_mayCome_57 : decode cX7_mayCome 57 = .ok (.iconst 0, 1) := by decide +kernel
theorem dX7_mayCome_58 : decode cX7_mayCome 58 = .ok (.istore_n 3, 1) := by decide +kernel
theorem dX7_mayCome_59 : decode cX7_mayCome 59 = .ok (.iload_n 3, 1) := by decide +kernel
theorem dX7_mayCome_60 : decode cX7_mayCome 60 = .ok (.ifCond .eq 43, 3) := by decide +kernel
theorem dX7_mayCome_63 : decode cX7_mayCome 63 = .ok (.aload_n 0, 1) := by decide +kernel
theorem dX7_mayCome_64 : decode cX7_mayCome 64 = .ok (.getfield 25, 3) := by decide +kernel
theorem dX7_mayCome_67 : decode cX7_mayCome 67 = .ok (.iload 4, 2) := by decide +kernel
theorem dX7_mayCome_69 : decode cX7_mayCome 69 = .ok (.iaload, 1) := by decide +kernel
theorem dX7_mayCome_70 : decode cX7_mayCome 70 = .ok (.iload_n 1, 1) := by decide +kernel
theorem dX7_mayCome_71 : decode cX7_mayCome 71 = .ok (.invokestatic 43, 3) := by decide +kernel
theorem dX7_mayCome_74 : decode cX7_mayCome 74 = .ok (.ifCond .eq 25, 3) := by decide +kernel
theorem dX7_mayCome_77 : decode cX7_mayCome 77 = .ok (.aload_n 0, 1) := by decide +kernel
theorem dX7_mayCome_78 : decode cX7_mayCome 78 = .ok (.getfield 22, 3) := by decide +kernel
theorem dX7_mayCome_81 : decode cX7_mayCome 81 = .ok (.iload 4, 2) := by decide +kernel
theorem dX7_mayCome_83 : decode cX7_mayCome 83 = .ok (.iaload, 1) := by decide +kernel
theorem dX7_mayCome_84 : decode cX7_mayCome 84 = .ok (.iconst (-1), 1) := by decide +kernel
theorem dX7_mayCome_85 : decode cX7_mayCome 85 = .ok (.if_icmp .eq 18, 3) := by decide +kernel
theorem dX7_mayCome_88 : decode cX7_mayCome 88 = .ok (.aload_n 0, 1) := by decide +kernel
theorem dX7_mayCome_89 : decode cX7_mayCome 89 = .ok (.getfield 22, 3) := by decide +kernel
theorem dX7_mayCome_92 : decode cX7_mayCome 92 = .ok (.iload 4, 2) := by decide +kernel
theorem dX7_mayCome_94 : decode cX7_mayCome 94 = .ok (.iaload, 1) := by decide +kernel
theorem dX7_mayCome_95 : decode cX7_mayCome 95 = .ok (.iload_n 2, 1) := by decide +kernel
theorem dX7_mayCome_96 : decode cX7_mayCome 96 = .ok (.if_icmp .ge 7, 3) := by decide +kernel
theorem dX7_mayCome_99 : decode cX7_mayCome 99 = .ok (.iconst 1, 1) := by decide +kernel
theorem dX7_mayCome_100 : decode cX7_mayCome 100 = .ok (.goto 4, 3) := by decide +kernel
theorem dX7_mayCome_103 : decode cX7_mayCome 103 = .ok (.iconst 0, 1) := by decide +kernel
theorem dX7_mayCome_104 : decode cX7_mayCome 104 = .ok (.istore_n 3, 1) := by decide +kernel
theorem dX7_mayCome_105 : decode cX7_mayCome 105 = .ok (.iinc 4 1, 3) := by decide +kernel
theorem dX7_mayCome_108 : decode cX7_mayCome 108 = .ok (.goto (-89), 3) := by decide +kernel
theorem dX7_mayCome_111 : decode cX7_mayCome 111 = .ok (.iload_n 3, 1) := by decide +kernel
theorem dX7_mayCome_112 : decode cX7_mayCome 112 = .ok (.ireturn, 1) := by decide +kernel
theorem dX7_nextFor_0 : decode cX7_nextFor 0 = .ok (.iconst (-1), 1) := by decide +kernel
theorem dX7_nextFor_1 : decode cX7_nextFor 1 = .ok (.istore_n 2, 1) := by decide +kernel
theorem dX7_nextFor_2 : decode cX7_nextFor 2 = .ok (.iconst 0, 1) := by decide +kernel
theorem dX7_nextFor_3 : decode cX7_nextFor 3 = .ok (.istore_n 3, 1) := by decide +kernel
theorem dX7_nextFor_4 : decode cX7_nextFor 4 = .ok (.iload_n 3, 1) := by decide +kernel
theorem dX7_nextFor_5 : decode cX7_nextFor 5 = .ok (.aload_n 0, 1) := by decide +kernel
theorem dX7_nextFor_6 : decode cX7_nextFor 6 = .ok (.getfield 130, 3) := by decide +kernel
theorem dX7_nextFor_9 : decode cX7_nextFor 9 = .ok (.if_icmp .ge 56, 3) := by decide +kernel
theorem dX7_nextFor_12 : decode cX7_nextFor 12 = .ok (.iload_n 2, 1) := by decide +kernel
theorem dX7_nextFor_13 : decode cX7_nextFor 13 = .ok (.iconst (-1), 1) := by decide +kernel
theorem dX7_nextFor_14 : decode cX7_nextFor 14 = .ok (.if_icmp .eq 18, 3) := by decide +kernel
theorem dX7_nextFor_17 : decode cX7_nextFor 17 = .ok (.aload_n 0, 1) := by decide +kernel
theorem dX7_nextFor_18 : decode cX7_nextFor 18 = .ok (.getfield 16, 3) := by decide +kernel
theorem dX7_nextFor_21 : decode cX7_nextFor 21 = .ok (.iload_n 3, 1) := by decide +kernel
theorem dX7_nextFor_22 : decode cX7_nextFor 22 = .ok (.iaload, 1) := by decide +kernel
theorem dX7_nextFor_23 : decode cX7_nextFor 23 = .ok (.aload_n 0, 1) := by decide +kernel
theorem dX7_nextFor_24 : decode cX7_nextFor 24 = .ok (.getfield 16, 3) := by decide +kernel
theorem dX7_nextFor_27 : decode cX7_nextFor 27 = .ok (.iload_n 2, 1) := by decide +kernel
theorem dX7_nextFor_28 : decode cX7_nextFor 28 = .ok (.iaload, 1) := by decide +kernel
theorem dX7_nextFor_29 : decode cX7_nextFor 29 = .ok (.if_icmp .ge 7, 3) := by decide +kernel
theorem dX7_nextFor_32 : decode cX7_nextFor 32 = .ok (.iconst 1, 1) := by decide +kernel
theorem dX7_nextFor_33 : decode cX7_nextFor 33 = .ok (.goto 4, 3) := by decide +kernel
theorem dX7_nextFor_36 : decode cX7_nextFor 36 = .ok (.iconst 0, 1) := by decide +kernel
theorem dX7_nextFor_37 : decode cX7_nextFor 37 = .ok (.istore 4, 2) := by decide +kernel
theorem dX7_nextFor_39 : decode cX7_nextFor 39 = .ok (.aload_n 0, 1) := by decide +kernel
theorem dX7_nextFor_40 : decode cX7_nextFor 40 = .ok (.iload_n 3, 1) := by decide +kernel
theorem dX7_nextFor_41 : decode cX7_nextFor 41 = .ok (.iload_n 1, 1) := by decide +kernel
theorem dX7_nextFor_42 : decode cX7_nextFor 42 = .ok (.invokevirtual 281, 3) := by decide +kernel
theorem dX7_nextFor_45 : decode cX7_nextFor 45 = .ok (.ifCond .eq 12, 3) := by decide +kernel
theorem dX7_nextFor_48 : decode cX7_nextFor 48 = .ok (.iload 4, 2) := by decide +kernel
theorem dX7_nextFor_50 : decode cX7_nextFor 50 = .ok (.ifCond .eq 7, 3) := by decide +kernel
theorem dX7_nextFor_53 : decode cX7_nextFor 53 = .ok (.iload_n 3, 1) := by decide +kernel
theorem dX7_nextFor_54 : decode cX7_nextFor 54 = .ok (.goto 4, 3) := by decide +kernel
theorem dX7_nextFor_57 : decode cX7_nextFor 57 = .ok (.iload_n 2, 1) := by decide +kernel
theorem dX7_nextFor_58 : decode cX7_nextFor 58 = .ok (.istore_n 2, 1) := by decide +kernel
theorem dX7_nextFor_59 : decode cX7_nextFor 59 = .ok (.iinc 3 1, 3) := by decide +kernel
theorem dX7_nextFor_62 : decode cX7_nextFor 62 = .ok (.goto (-58), 3) := by decide +kernel
theorem dX7_nextFor_65 : decode cX7_nextFor 65 = .ok (.iload_n 2, 1) := by decide +kernel
theorem dX7_nextFor_66 : decode cX7_nextFor 66 = .ok (.ireturn, 1) := by decide +kernel
theorem dX7_depth_0 : decode cX7_depth 0 = .ok (.iconst (-1), 1) := by decide +kernel
theorem dX7_depth_1 : decode cX7_depth 1 = .ok (.istore_n 1, 1) := by decide +kernel
theorem dX7_depth_2 : decode cX7_depth 2 = .ok (.iconst 0, 1) := by decide +kernel
theorem dX7_depth_3 : decode cX7_depth 3 = .ok (.istore_n 2, 1) := by decide +kernel
theorem dX7_depth_4 : decode cX7_depth 4 = .ok (.iload_n 2, 1) := by decide +kernel
theorem dX7_depth_5 : decode cX7_depth 5 = .ok (.aload_n 0, 1) := by decide +kernel
theorem dX7_depth_6 : decode cX7_depth 6 = .ok (.getfield 130, 3) := by decide +kernel
theorem dX7_depth_9 : decode cX7_depth 9 = .ok (.if_icmp .ge 30, 3) := by decide +kernel
theorem dX7_depth_12 : decode cX7_depth 12 = .ok (.aload_n 0, 1) := by decide +kernel
theorem dX7_depth_13 : decode cX7_depth 13 = .ok (.getfield 22, 3) := by decide +kernel
theorem dX7_depth_16 : decode cX7_depth 16 = .ok (.iload_n 2, 1) := by decide +kernel
theorem dX7_depth_17 : decode cX7_depth 17 = .ok (.iaload, 1) := by decide +kernel
theorem dX7_depth_18 : decode cX7_depth 18 = .ok (.iload_n 1, 1) := by decide +kernel
theorem dX7_depth_19 : decode cX7_depth 19 = .ok (.if_icmp .le 12, 3) := by decide +kernel
theorem dX7_depth_22 : decode cX7_depth 22 = .ok (.aload_n 0, 1) := by decide +kernel
theorem dX7_depth_23 : decode cX7_depth 23 = .ok (.getfield 22, 3) := by decide +kernel
theorem dX7_depth_26 : decode cX7_depth 26 = .ok (.iload_n 2, 1) := by decide +kernel
theorem dX7_depth_27 : decode cX7_depth 27 = .ok (.iaload, 1) := by decide +kernel
theorem dX7_depth_28 : decode cX7_depth 28 = .ok (.goto 4, 3) := by decide +kernel
theorem dX7_depth_31 : decode cX7_depth 31 = .ok (.iload_n 1, 1) := by decide +kernel
theorem dX7_depth_32 : decode cX7_depth 32 = .ok (.istore_n 1, 1) := by decide +kernel
theorem dX7_depth_33 : decode cX7_depth 33 = .ok (.iinc 2 1, 3) := by decide +kernel
theorem dX7_depth_36 : decode cX7_depth 36 = .ok (.goto (-32), 3) := by decide +kernel
theorem dX7_depth_39 : decode cX7_depth 39 = .ok (.iload_n 1, 1) := by decide +kernel
theorem dX7_depth_40 : decode cX7_depth 40 = .ok (.iconst 1, 1) := by decide +kernel
theorem dX7_depth_41 : decode cX7_depth 41 = .ok (.iadd, 1) := by decide +kernel
theorem dX7_depth_42 : decode cX7_depth 42 = .ok (.ireturn, 1) := by decide +kernel
theorem dX7_pack_0 : decode cX7_pack 0 = .ok (.aload_n 0, 1) := by decide +kernel
theorem dX7_pack_1 : decode cX7_pack 1 = .ok (.invokevirtual 197, 3) := by decide +kernel
theorem dX7_pack_4 : decode cX7_pack 4 = .ok (.ifCond .eq 10, 3) := by decide +kernel
theorem dX7_pack_7 : decode cX7_pack 7 = .ok (.aload_n 0, 1) := by decide +kernel
theorem dX7_pack_8 : decode cX7_pack 8 = .ok (.getfield 156, 3) := by decide +kernel
theorem dX7_pack_11 : decode cX7_pack 11 = .ok (.ifCond .le 6, 3) := by decide +kernel
theorem dX7_pack_14 : decode cX7_pack 14 = .ok (.bipush (-103), 2) := by decide +kernel
theorem dX7_pack_16 : decode cX7_pack 16 = .ok (.ireturn, 1) := by decide +kernel
theorem dX7_pack_17 : decode cX7_pack 17 = .ok (.aload_n 0, 1) := by decide +kernel
theorem dX7_pack_18 : decode cX7_pack 18 = .ok (.invokevirtual 278, 3) := by decide +kernel
theorem dX7_pack_21 : decode cX7_pack 21 = .ok (.pop, 1) := by decide +kernel
theorem dX7_pack_22 : decode cX7_pack 22 = .ok (.iconst 0, 1) := by decide +kernel
theorem dX7_pack_23 : decode cX7_pack 23 = .ok (.istore_n 1, 1) := by decide +kernel
theorem dX7_pack_24 : decode cX7_pack 24 = .ok (.iload_n 1, 1) := by decide +kernel
theorem dX7_pack_25 : decode cX7_pack 25 = .ok (.bipush 14, 2) := by decide +kernel
theorem dX7_pack_27 : decode cX7_pack 27 = .ok (.if_icmp .ge 36, 3) := by decide +kernel
theorem dX7_pack_30 : decode cX7_pack 30 = .ok (.aload_n 0, 1) := by decide +kernel
theorem dX7_pack_31 : decode cX7_pack 31 = .ok (.iload_n 1, 1) := by decide +kernel
theorem dX7_pack_32 : decode cX7_pack 32 = .ok (.invokevirtual 284, 3) := by decide +kernel
theorem dX7_pack_35 : decode cX7_pack 35 = .ok (.istore_n 2, 1) := by decide +kernel
theorem dX7_pack_36 : decode cX7_pack 36 = .ok (.iload_n 2, 1) := by decide +kernel
theorem dX7_pack_37 : decode cX7_pack 37 = .ok (.iconst (-1), 1) := by decide +kernel
theorem dX7_pack_38 : decode cX7_pack 38 = .ok (.if_icmp .eq 19, 3) := by decide +kernel
theorem dX7_pack_41 : decode cX7_pack 41 = .ok (.aload_n 0, 1) := by decide +kernel
theorem dX7_pack_42 : decode cX7_pack 42 = .ok (.getfield 22, 3) := by decide +kernel
theorem dX7_pack_45 : decode cX7_pack 45 = .ok (.iload_n 2, 1) := by decide +kernel
theorem dX7_pack_46 : decode cX7_pack 46 = .ok (.iload_n 1, 1) := by decide +kernel
theorem dX7_pack_47 : decode cX7_pack 47 = .ok (.iastore, 1) := by decide +kernel
theorem dX7_pack_48 : decode cX7_pack 48 = .ok (.aload_n 0, 1) := by decide +kernel
theorem dX7_pack_49 : decode cX7_pack 49 = .ok (.iload_n 1, 1) := by decide +kernel
theorem dX7_pack_50 : decode cX7_pack 50 = .ok (.invokevirtual 284, 3) := by decide +kernel
theorem dX7_pack_53 : decode cX7_pack 53 = .ok (.istore_n 2, 1) := by decide +kernel
theorem dX7_pack_54 : decode cX7_pack 54 = .ok (.goto (-18), 3) := by decide +kernel
theorem dX7_pack_57 : decode cX7_pack 57 = .ok (.iinc 1 1, 3) := by decide +kernel
theorem dX7_pack_60 : decode cX7_pack 60 = .ok (.goto (-36), 3) := by decide +kernel
theorem dX7_pack_63 : decode cX7_pack 63 = .ok (.aload_n 0, 1) := by decide +kernel
theorem dX7_pack_64 : decode cX7_pack 64 = .ok (.invokevirtual 185, 3) := by decide +kernel
theorem dX7_pack_67 : decode cX7_pack 67 = .ok (.ireturn, 1) := by decide +kernel
theorem dX7_isFine_0 : decode cX7_isFine 0 = .ok (.aload_n 0, 1) := by decide +kernel
theorem dX7_isFine_1 : decode cX7_isFine 1 = .ok (.getfield 22, 3) := by decide +kernel
theorem dX7_isFine_4 : decode cX7_isFine 4 = .ok (.iload_n 1, 1) := by decide +kernel
theorem dX7_isFine_5 : decode cX7_isFine 5 = .ok (.iaload, 1) := by decide +kernel
theorem dX7_isFine_6 : decode cX7_isFine 6 = .ok (.aload_n 0, 1) := by decide +kernel
theorem dX7_isFine_7 : decode cX7_isFine 7 = .ok (.getfield 22, 3) := by decide +kernel
theorem dX7_isFine_10 : decode cX7_isFine 10 = .ok (.iload_n 2, 1) := by decide +kernel
theorem dX7_isFine_11 : decode cX7_isFine 11 = .ok (.iaload, 1) := by decide +kernel
theorem dX7_isFine_12 : decode cX7_isFine 12 = .ok (.if_icmp .ne 12, 3) := by decide +kernel
theorem dX7_isFine_15 : decode cX7_isFine 15 = .ok (.aload_n 0, 1) := by decide +kernel
theorem dX7_isFine_16 : decode cX7_isFine 16 = .ok (.iload_n 1, 1) := by decide +kernel
theorem dX7_isFine_17 : decode cX7_isFine 17 = .ok (.iload_n 2, 1) := by decide +kernel
theorem dX7_isFine_18 : decode cX7_isFine 18 = .ok (.invokevirtual 179, 3) := by decide +kernel
theorem dX7_isFine_21 : decode cX7_isFine 21 = .ok (.ifCond .ne 7, 3) := by decide +kernel
theorem dX7_isFine_24 : decode cX7_isFine 24 = .ok (.iconst 1, 1) := by decide +kernel
theorem dX7_isFine_25 : decode cX7_isFine 25 = .ok (.goto 4, 3) := by decide +kernel
theorem dX7_isFine_28 : decode cX7_isFine 28 = .ok (.iconst 0, 1) := by decide +kernel
theorem dX7_isFine_29 : decode cX7_isFine 29 = .ok (.istore_n 3, 1) := by decide +kernel
theorem dX7_isFine_30 : decode cX7_isFine 30 = .ok (.iload_n 3, 1) := by decide +kernel
theorem dX7_isFine_31 : decode cX7_isFine 31 = .ok (.ifCond .eq 35, 3) := by decide +kernel
theorem dX7_isFine_34 : decode cX7_isFine 34 = .ok (.aload_n 0, 1) := by decide +kernel
theorem dX7_isFine_35 : decode cX7_isFine 35 = .ok (.getfield 25, 3) := by decide +kernel
theorem dX7_isFine_38 : decode cX7_isFine 38 = .ok (.iload_n 1, 1) := by decide +kernel
theorem dX7_isFine_39 : decode cX7_isFine 39 = .ok (.iaload, 1) := by decide +kernel
theorem dX7_isFine_40 : decode cX7_isFine 40 = .ok (.iload_n 2, 1) := by decide +kernel
theorem dX7_isFine_41 : decode cX7_isFine 41 = .ok (.invokestatic 43, 3) := by decide +kernel
theorem dX7_isFine_44 : decode cX7_isFine 44 = .ok (.ifCond .eq 18, 3) := by decide +kernel
theorem dX7_isFine_47 : decode cX7_isFine 47 = .ok (.aload_n 0, 1) := by decide +kernel
theorem dX7_isFine_48 : decode cX7_isFine 48 = .ok (.getfield 22, 3) := by decide +kernel
theorem dX7_isFine_51 : decode cX7_isFine 51 = .ok (.iload_n 1, 1) := by decide +kernel
theorem dX7_isFine_52 : decode cX7_isFine 52 = .ok (.iaload, 1) := by decide +kernel
theorem dX7_isFine_53 : decode cX7_isFine 53 = .ok (.aload_n 0, 1) := by decide +kernel
theorem dX7_isFine_54 : decode cX7_isFine 54 = .ok (.getfield 22, 3) := by decide +kernel
theorem dX7_isFine_57 : decode cX7_isFine 57 = .ok (.iload_n 2, 1) := by decide +kernel
theorem dX7_isFine_58 : decode cX7_isFine 58 = .ok (.iaload, 1) := by decide +kernel
theorem dX7_isFine_59 : decode cX7_isFine 59 = .ok (.if_icmp .ge 7, 3) := by decide +kernel
theorem dX7_isFine_62 : decode cX7_isFine 62 = .ok (.iconst 1, 1) := by decide +kernel
theorem dX7_isFine_63 : decode cX7_isFine 63 = .ok (.goto 4, 3) := by decide +kernel
theorem dX7_isFine_66 : decode cX7_isFine 66 = .ok (.iconst 0, 1) := by decide +kernel
theorem dX7_isFine_67 : decode cX7_isFine 67 = .ok (.istore_n 3, 1) := by decide +kernel
theorem dX7_isFine_68 : decode cX7_isFine 68 = .ok (.iload_n 3, 1) := by decide +kernel
theorem dX7_isFine_69 : decode cX7_isFine 69 = .ok (.ifCond .eq 35, 3) := by decide +kernel
theorem dX7_isFine_72 : decode cX7_isFine 72 = .ok (.aload_n 0, 1) := by decide +kernel
theorem dX7_isFine_73 : decode cX7_isFine 73 = .ok (.getfield 25, 3) := by decide +kernel
theorem dX7_isFine_76 : decode cX7_isFine 76 = .ok (.iload_n 2, 1) := by decide +kernel
theorem dX7_isFine_77 : decode cX7_isFine 77 = .ok (.iaload, 1) := by decide +kernel
theorem dX7_isFine_78 : decode cX7_isFine 78 = .ok (.iload_n 1, 1) := by decide +kernel
theorem dX7_isFine_79 : decode cX7_isFine 79 = .ok (.invokestatic 43, 3) := by decide +kernel
theorem dX7_isFine_82 : decode cX7_isFine 82 = .ok (.ifCond .eq 18, 3) := by decide +kernel
theorem dX7_isFine_85 : decode cX7_isFine 85 = .ok (.aload_n 0, 1) := by decide +kernel
theorem dX7_isFine_86 : decode cX7_isFine 86 = .ok (.getfield 22, 3) := by decide +kernel
theorem dX7_isFine_89 : decode cX7_isFine 89 = .ok (.iload_n 2, 1) := by decide +kernel
theorem dX7_isFine_90 : decode cX7_isFine 90 = .ok (.iaload, 1) := by decide +kernel
theorem dX7_isFine_91 : decode cX7_isFine 91 = .ok (.aload_n 0, 1) := by decide +kernel
theorem dX7_isFine_92 : decode cX7_isFine 92 = .ok (.getfield 22, 3) := by decide +kernel
theorem dX7_isFine_95 : decode cX7_isFine 95 = .ok (.iload_n 1, 1) := by decide +kernel
theorem dX7_isFine_96 : decode cX7_isFine 96 = .ok (.iaload, 1) := by decide +kernel
theorem dX7_isFine_97 : decode cX7_isFine 97 = .ok (.if_icmp .ge 7, 3) := by decide +kernel
theorem dX7_isFine_100 : decode cX7_isFine 100 = .ok (.iconst 1, 1) := by decide +kernel
theorem dX7_isFine_101 : decode cX7_isFine 101 = .ok (.goto 4, 3) := by decide +kernel
theorem dX7_isFine_104 : decode cX7_isFine 104 = .ok (.iconst 0, 1) := by decide +kernel
theorem dX7_isFine_105 : decode cX7_isFine 105 = .ok (.ireturn, 1) := by decide +kernel
theorem dX7_goesOn_0 : decode cX7_goesOn 0 = .ok (.iconst 1, 1) := by decide +kernel
theorem dX7_goesOn_1 : decode cX7_goesOn 1 = .ok (.istore_n 2, 1) := by decide +kernel
theorem dX7_goesOn_2 : decode cX7_goesOn 2 = .ok (.iconst 0, 1) := by decide +kernel
theorem dX7_goesOn_3 : decode cX7_goesOn 3 = .ok (.istore_n 3, 1) := by decide +kernel
theorem dX7_goesOn_4 : decode cX7_goesOn 4 = .ok (.iload_n 3, 1) := by decide +kernel
theorem dX7_goesOn_5 : decode cX7_goesOn 5 = .ok (.iload_n 1, 1) := by decide +kernel
theorem dX7_goesOn_6 : decode cX7_goesOn 6 = .ok (.if_icmp .ge 28, 3) := by decide +kernel
theorem dX7_goesOn_9 : decode cX7_goesOn 9 = .ok (.iload_n 2, 1) := by decide +kernel
theorem dX7_goesOn_10 : decode cX7_goesOn 10 = .ok (.ifCond .eq 16, 3) := by decide +kernel
theorem dX7_goesOn_13 : decode cX7_goesOn 13 = .ok (.aload_n 0, 1) := by decide +kernel
theorem dX7_goesOn_14 : decode cX7_goesOn 14 = .ok (.iload_n 3, 1) := by decide +kernel
theorem dX7_goesOn_15 : decode cX7_goesOn 15 = .ok (.iload_n 1, 1) := by decide +kernel
theorem dX7_goesOn_16 : decode cX7_goesOn 16 = .ok (.invokevirtual 182, 3) := by decide +kernel
theorem dX7_goesOn_19 : decode cX7_goesOn 19 = .ok (.ifCond .eq 7, 3) := by decide +kernel
theorem dX7_goesOn_22 : decode cX7_goesOn 22 = .ok (.iconst 1, 1) := by decide +kernel
theorem dX7_goesOn_23 : decode cX7_goesOn 23 = .ok (.goto 4, 3) := by decide +kernel
theorem dX7_goesOn_26 : decode cX7_goesOn 26 = .ok (.iconst 0, 1) := by decide +kernel
theorem dX7_goesOn_27 : decode cX7_goesOn 27 = .ok (.istore_n 2, 1) := by decide +kernel
theorem dX7_goesOn_28 : decode cX7_goesOn 28 = .ok (.iinc 3 1, 3) := by decide +kernel
theorem dX7_goesOn_31 : decode cX7_goesOn 31 = .ok (.goto (-27), 3) := by decide +kernel
theorem dX7_goesOn_34 : decode cX7_goesOn 34 = .ok (.iload_n 2, 1) := by decide +kernel
theorem dX7_goesOn_35 : decode cX7_goesOn 35 = .ok (.ireturn, 1) := by decide +kernel
theorem dX7_findPlan_0 : decode cX7_findPlan 0 = .ok (.aload_n 0, 1) := by decide +kernel
theorem dX7_findPlan_1 : decode cX7_findPlan 1 = .ok (.invokevirtual 278, 3) := by decide +kernel
theorem dX7_findPlan_4 : decode cX7_findPlan 4 = .ok (.pop, 1) := by decide +kernel
theorem dX7_findPlan_5 : decode cX7_findPlan 5 = .ok (.iconst 0, 1) := by decide +kernel
theorem dX7_findPlan_6 : decode cX7_findPlan 6 = .ok (.istore_n 2, 1) := by decide +kernel
theorem dX7_findPlan_7 : decode cX7_findPlan 7 = .ok (.iload_n 2, 1) := by decide +kernel
theorem dX7_findPlan_8 : decode cX7_findPlan 8 = .ok (.ifCond .lt 81, 3) := by decide +kernel
theorem dX7_findPlan_11 : decode cX7_findPlan 11 = .ok (.iload_n 2, 1) := by decide +kernel
theorem dX7_findPlan_12 : decode cX7_findPlan 12 = .ok (.aload_n 0, 1) := by decide +kernel
theorem dX7_findPlan_13 : decode cX7_findPlan 13 = .ok (.getfield 130, 3) := by decide +kernel
theorem dX7_findPlan_16 : decode cX7_findPlan 16 = .ok (.if_icmp .ge 73, 3) := by decide +kernel
theorem dX7_findPlan_19 : decode cX7_findPlan 19 = .ok (.aload_n 0, 1) := by decide +kernel
theorem dX7_findPlan_20 : decode cX7_findPlan 20 = .ok (.getfield 22, 3) := by decide +kernel
theorem dX7_findPlan_23 : decode cX7_findPlan 23 = .ok (.iload_n 2, 1) := by decide +kernel
theorem dX7_findPlan_24 : decode cX7_findPlan 24 = .ok (.dup2, 1) := by decide +kernel
theorem dX7_findPlan_25 : decode cX7_findPlan 25 = .ok (.iaload, 1) := by decide +kernel
theorem dX7_findPlan_26 : decode cX7_findPlan 26 = .ok (.iconst 1, 1) := by decide +kernel
theorem dX7_findPlan_27 : decode cX7_findPlan 27 = .ok (.iadd, 1) := by decide +kernel
theorem dX7_findPlan_28 : decode cX7_findPlan 28 = .ok (.iastore, 1) := by decide +kernel
theorem dX7_findPlan_29 : decode cX7_findPlan 29 = .ok (.aload_n 0, 1) := by decide +kernel
theorem dX7_findPlan_30 : decode cX7_findPlan 30 = .ok (.getfield 22, 3) := by decide +kernel
theorem dX7_findPlan_33 : decode cX7_findPlan 33 = .ok (.iload_n 2, 1) := by decide +kernel
theorem dX7_findPlan_34 : decode cX7_findPlan 34 = .ok (.iaload, 1) := by decide +kernel
theorem dX7_findPlan_35 : decode cX7_findPlan 35 = .ok (.iload_n 1, 1) := by decide +kernel
theorem dX7_findPlan_36 : decode cX7_findPlan 36 = .ok (.if_icmp .ge 24, 3) := by decide +kernel
theorem dX7_findPlan_39 : decode cX7_findPlan 39 = .ok (.aload_n 0, 1) := by decide +kernel
theorem dX7_findPlan_40 : decode cX7_findPlan 40 = .ok (.iload_n 2, 1) := by decide +kernel
theorem dX7_findPlan_41 : decode cX7_findPlan 41 = .ok (.invokevirtual 287, 3) := by decide +kernel
theorem dX7_findPlan_44 : decode cX7_findPlan 44 = .ok (.ifCond .ne 16, 3) := by decide +kernel
theorem dX7_findPlan_47 : decode cX7_findPlan 47 = .ok (.aload_n 0, 1) := by decide +kernel
theorem dX7_findPlan_48 : decode cX7_findPlan 48 = .ok (.getfield 22, 3) := by decide +kernel
theorem dX7_findPlan_51 : decode cX7_findPlan 51 = .ok (.iload_n 2, 1) := by decide +kernel
theorem dX7_findPlan_52 : decode cX7_findPlan 52 = .ok (.dup2, 1) := by decide +kernel
theorem dX7_findPlan_53 : decode cX7_findPlan 53 = .ok (.iaload, 1) := by decide +kernel
theorem dX7_findPlan_54 : decode cX7_findPlan 54 = .ok (.iconst 1, 1) := by decide +kernel
theorem dX7_findPlan_55 : decode cX7_findPlan 55 = .ok (.iadd, 1) := by decide +kernel
theorem dX7_findPlan_56 : decode cX7_findPlan 56 = .ok (.iastore, 1) := by decide +kernel
theorem dX7_findPlan_57 : decode cX7_findPlan 57 = .ok (.goto (-28), 3) := by decide +kernel
theorem dX7_findPlan_60 : decode cX7_findPlan 60 = .ok (.aload_n 0, 1) := by decide +kernel
theorem dX7_findPlan_61 : decode cX7_findPlan 61 = .ok (.getfield 22, 3) := by decide +kernel
theorem dX7_findPlan_64 : decode cX7_findPlan 64 = .ok (.iload_n 2, 1) := by decide +kernel
theorem dX7_findPlan_65 : decode cX7_findPlan 65 = .ok (.iaload, 1) := by decide +kernel
theorem dX7_findPlan_66 : decode cX7_findPlan 66 = .ok (.iload_n 1, 1) := by decide +kernel
theorem dX7_findPlan_67 : decode cX7_findPlan 67 = .ok (.if_icmp .ge 9, 3) := by decide +kernel
theorem dX7_findPlan_70 : decode cX7_findPlan 70 = .ok (.iinc 2 1, 3) := by decide +kernel
theorem dX7_findPlan_73 : decode cX7_findPlan 73 = .ok (.goto (-66), 3) := by decide +kernel
theorem dX7_findPlan_76 : decode cX7_findPlan 76 = .ok (.aload_n 0, 1) := by decide +kernel
theorem dX7_findPlan_77 : decode cX7_findPlan 77 = .ok (.getfield 22, 3) := by decide +kernel
theorem dX7_findPlan_80 : decode cX7_findPlan 80 = .ok (.iload_n 2, 1) := by decide +kernel
theorem dX7_findPlan_81 : decode cX7_findPlan 81 = .ok (.iconst (-1), 1) := by decide +kernel
theorem dX7_findPlan_82 : decode cX7_findPlan 82 = .ok (.iastore, 1) := by decide +kernel
theorem dX7_findPlan_83 : decode cX7_findPlan 83 = .ok (.iinc 2 (-1), 3) := by decide +kernel
theorem dX7_findPlan_86 : decode cX7_findPlan 86 = .ok (.goto (-79), 3) := by decide +kernel
theorem dX7_findPlan_89 : decode cX7_findPlan 89 = .ok (.iload_n 2, 1) := by decide +kernel
theorem dX7_findPlan_90 : decode cX7_findPlan 90 = .ok (.aload_n 0, 1) := by decide +kernel
theorem dX7_findPlan_91 : decode cX7_findPlan 91 = .ok (.getfield 130, 3) := by decide +kernel
theorem dX7_findPlan_94 : decode cX7_findPlan 94 = .ok (.if_icmp .ne 7, 3) := by decide +kernel
theorem dX7_findPlan_97 : decode cX7_findPlan 97 = .ok (.iconst 1, 1) := by decide +kernel
theorem dX7_findPlan_98 : decode cX7_findPlan 98 = .ok (.goto 4, 3) := by decide +kernel
theorem dX7_findPlan_101 : decode cX7_findPlan 101 = .ok (.iconst 0, 1) := by decide +kernel
theorem dX7_findPlan_102 : decode cX7_findPlan 102 = .ok (.ireturn, 1) := by decide +kernel
theorem dX7_best_0 : decode cX7_best 0 = .ok (.aload_n 0, 1) := by decide +kernel
theorem dX7_best_1 : decode cX7_best 1 = .ok (.invokevirtual 197, 3) := by decide +kernel
theorem dX7_best_4 : decode cX7_best 4 = .ok (.ifCond .eq 28, 3) := by decide +kernel
theorem dX7_best_7 : decode cX7_best 7 = .ok (.aload_n 0, 1) := by decide +kernel
theorem dX7_best_8 : decode cX7_best 8 = .ok (.getfield 156, 3) := by decide +kernel
theorem dX7_best_11 : decode cX7_best 11 = .ok (.ifCond .gt 21, 3) := by decide +kernel
theorem dX7_best_14 : decode cX7_best 14 = .ok (.aload_n 0, 1) := by decide +kernel
theorem dX7_best_15 : decode cX7_best 15 = .ok (.getfield 130, 3) := by decide +kernel
theorem dX7_best_18 : decode cX7_best 18 = .ok (.bipush 8, 2) := by decide +kernel
theorem dX7_best_20 : decode cX7_best 20 = .ok (.if_icmp .gt 12, 3) := by decide +kernel
theorem dX7_best_23 : decode cX7_best 23 = .ok (.aload_n 0, 1) := by decide +kernel
theorem dX7_best_24 : decode cX7_best 24 = .ok (.getfield 290, 3) := by decide +kernel
theorem dX7_best_27 : decode cX7_best 27 = .ok (.bipush 20, 2) := by decide +kernel
theorem dX7_best_29 : decode cX7_best 29 = .ok (.if_icmp .ne 6, 3) := by decide +kernel
theorem dX7_best_32 : decode cX7_best 32 = .ok (.bipush (-103), 2) := by decide +kernel
theorem dX7_best_34 : decode cX7_best 34 = .ok (.ireturn, 1) := by decide +kernel
theorem dX7_best_35 : decode cX7_best 35 = .ok (.aload_n 0, 1) := by decide +kernel
theorem dX7_best_36 : decode cX7_best 36 = .ok (.dup, 1) := by decide +kernel
theorem dX7_best_37 : decode cX7_best 37 = .ok (.getfield 290, 3) := by decide +kernel
theorem dX7_best_40 : decode cX7_best 40 = .ok (.iconst 1, 1) := by decide +kernel
theorem dX7_best_41 : decode cX7_best 41 = .ok (.iadd, 1) := by decide +kernel
theorem dX7_best_42 : decode cX7_best 42 = .ok (.putfield 290, 3) := by decide +kernel
theorem dX7_best_45 : decode cX7_best 45 = .ok (.iconst 0, 1) := by decide +kernel
theorem dX7_best_46 : decode cX7_best 46 = .ok (.istore_n 1, 1) := by decide +kernel
theorem dX7_best_47 : decode cX7_best 47 = .ok (.aload_n 0, 1) := by decide +kernel
theorem dX7_best_48 : decode cX7_best 48 = .ok (.iload_n 1, 1) := by decide +kernel
theorem dX7_best_49 : decode cX7_best 49 = .ok (.invokevirtual 293, 3) := by decide +kernel
theorem dX7_best_52 : decode cX7_best 52 = .ok (.ifCond .ne 9, 3) := by decide +kernel
theorem dX7_best_55 : decode cX7_best 55 = .ok (.iinc 1 1, 3) := by decide +kernel
theorem dX7_best_58 : decode cX7_best 58 = .ok (.goto (-11), 3) := by decide +kernel
theorem dX7_best_61 : decode cX7_best 61 = .ok (.iload_n 1, 1) := by decide +kernel
theorem dX7_best_62 : decode cX7_best 62 = .ok (.ireturn, 1) := by decide +kernel
theorem dX7_clear_0 : decode cX7_clear 0 = .ok (.aload_n 0, 1) := by decide +kernel
theorem dX7_clear_1 : decode cX7_clear 1 = .ok (.invokevirtual 197, 3) := by decide +kernel
theorem dX7_clear_4 : decode cX7_clear 4 = .ok (.ifCond .eq 10, 3) := by decide +kernel
theorem dX7_clear_7 : decode cX7_clear 7 = .ok (.aload_n 0, 1) := by decide +kernel
theorem dX7_clear_8 : decode cX7_clear 8 = .ok (.invokevirtual 278, 3) := by decide +kernel
theorem dX7_clear_11 : decode cX7_clear 11 = .ok (.goto 5, 3) := by decide +kernel
theorem dX7_clear_14 : decode cX7_clear 14 = .ok (.bipush (-103), 2) := by decide +kernel
theorem dX7_clear_16 : decode cX7_clear 16 = .ok (.ireturn, 1) := by decide +kernel
theorem dX7_cut_0 : decode cX7_cut 0 = .ok (.aload_n 0, 1) := by decide +kernel
theorem dX7_cut_1 : decode cX7_cut 1 = .ok (.invokevirtual 197, 3) := by decide +kernel
theorem dX7_cut_4 : decode cX7_cut 4 = .ok (.ifCond .eq 12, 3) := by decide +kernel
theorem dX7_cut_7 : decode cX7_cut 7 = .ok (.iload_n 1, 1) := by decide +kernel
theorem dX7_cut_8 : decode cX7_cut 8 = .ok (.iconst 0, 1) := by decide +kernel
theorem dX7_cut_9 : decode cX7_cut 9 = .ok (.iconst 5, 1) := by decide +kernel
theorem dX7_cut_10 : decode cX7_cut 10 = .ok (.invokestatic 47, 3) := by decide +kernel
theorem dX7_cut_13 : decode cX7_cut 13 = .ok (.ifCond .ne 6, 3) := by decide +kernel
theorem dX7_cut_16 : decode cX7_cut 16 = .ok (.bipush (-101), 2) := by decide +kernel
theorem dX7_cut_18 : decode cX7_cut 18 = .ok (.ireturn, 1) := by decide +kernel
theorem dX7_cut_19 : decode cX7_cut 19 = .ok (.aload_n 0, 1) := by decide +kernel
theorem dX7_cut_20 : decode cX7_cut 20 = .ok (.getfield 93, 3) := by decide +kernel
theorem dX7_cut_23 : decode cX7_cut 23 = .ok (.iload_n 1, 1) := by decide +kernel
theorem dX7_cut_24 : decode cX7_cut 24 = .ok (.invokestatic 43, 3) := by decide +kernel
theorem dX7_cut_27 : decode cX7_cut 27 = .ok (.iload_n 2, 1) := by decide +kernel
theorem dX7_cut_28 : decode cX7_cut 28 = .ok (.if_icmp .ne 6, 3) := by decide +kernel
theorem dX7_cut_31 : decode cX7_cut 31 = .ok (.bipush (-103), 2) := by decide +kernel
theorem dX7_cut_33 : decode cX7_cut 33 = .ok (.ireturn, 1) := by decide +kernel
theorem dX7_cut_34 : decode cX7_cut 34 = .ok (.aload_n 0, 1) := by decide +kernel
theorem dX7_cut_35 : decode cX7_cut 35 = .ok (.dup, 1) := by decide +kernel
theorem dX7_cut_36 : decode cX7_cut 36 = .ok (.getfield 93, 3) := by decide +kernel
theorem dX7_cut_39 : decode cX7_cut 39 = .ok (.iconst 1, 1) := by decide +kernel
theorem dX7_cut_40 : decode cX7_cut 40 = .ok (.iload_n 1, 1) := by decide +kernel
theorem dX7_cut_41 : decode cX7_cut 41 = .ok (.ishl, 1) := by decide +kernel
theorem dX7_cut_42 : decode cX7_cut 42 = .ok (.ixor, 1) := by decide +kernel
theorem dX7_cut_43 : decode cX7_cut 43 = .ok (.putfield 93, 3) := by decide +kernel
theorem dX7_cut_46 : decode cX7_cut 46 = .ok (.aload_n 0, 1) := by decide +kernel
theorem dX7_cut_47 : decode cX7_cut 47 = .ok (.invokevirtual 99, 3) := by decide +kernel
theorem dX7_cut_50 : decode cX7_cut 50 = .ok (.aload_n 0, 1) := by decide +kernel
theorem dX7_cut_51 : decode cX7_cut 51 = .ok (.getfield 130, 3) := by decide +kernel
theorem dX7_cut_54 : decode cX7_cut 54 = .ok (.ireturn, 1) := by decide +kernel
theorem dX7_isColumn_0 : decode cX7_isColumn 0 = .ok (.iload_n 1, 1) := by decide +kernel
theorem dX7_isColumn_1 : decode cX7_isColumn 1 = .ok (.iconst 0, 1) := by decide +kernel
theorem dX7_isColumn_2 : decode cX7_isColumn 2 = .ok (.aload_n 0, 1) := by decide +kernel
theorem dX7_isColumn_3 : decode cX7_isColumn 3 = .ok (.getfield 87, 3) := by decide +kernel
theorem dX7_isColumn_6 : decode cX7_isColumn 6 = .ok (.iconst 1, 1) := by decide +kernel
theorem dX7_isColumn_7 : decode cX7_isColumn 7 = .ok (.isub, 1) := by decide +kernel
theorem dX7_isColumn_8 : decode cX7_isColumn 8 = .ok (.invokestatic 47, 3) := by decide +kernel
theorem dX7_isColumn_11 : decode cX7_isColumn 11 = .ok (.ireturn, 1) := by decide +kernel
theorem dX7_turn_0 : decode cX7_turn 0 = .ok (.aload_n 0, 1) := by decide +kernel
theorem dX7_turn_1 : decode cX7_turn 1 = .ok (.iload_n 1, 1) := by decide +kernel
theorem dX7_turn_2 : decode cX7_turn 2 = .ok (.invokevirtual 242, 3) := by decide +kernel
theorem dX7_turn_5 : decode cX7_turn 5 = .ok (.ifCond .ne 6, 3) := by decide +kernel
theorem dX7_turn_8 : decode cX7_turn 8 = .ok (.bipush (-101), 2) := by decide +kernel
theorem dX7_turn_10 : decode cX7_turn 10 = .ok (.ireturn, 1) := by decide +kernel
theorem dX7_turn_11 : decode cX7_turn 11 = .ok (.aload_n 0, 1) := by decide +kernel
theorem dX7_turn_12 : decode cX7_turn 12 = .ok (.iload_n 1, 1) := by decide +kernel
theorem dX7_turn_13 : decode cX7_turn 13 = .ok (.invokevirtual 124, 3) := by decide +kernel
theorem dX7_turn_16 : decode cX7_turn 16 = .ok (.istore_n 2, 1) := by decide +kernel
theorem dX7_turn_17 : decode cX7_turn 17 = .ok (.aload_n 0, 1) := by decide +kernel
theorem dX7_turn_18 : decode cX7_turn 18 = .ok (.getfield 7, 3) := by decide +kernel
theorem dX7_turn_21 : decode cX7_turn 21 = .ok (.iconst 2, 1) := by decide +kernel
theorem dX7_turn_22 : decode cX7_turn 22 = .ok (.iload_n 1, 1) := by decide +kernel
theorem dX7_turn_23 : decode cX7_turn 23 = .ok (.imul, 1) := by decide +kernel
theorem dX7_turn_24 : decode cX7_turn 24 = .ok (.aload_n 0, 1) := by decide +kernel
theorem dX7_turn_25 : decode cX7_turn 25 = .ok (.iload_n 1, 1) := by decide +kernel
theorem dX7_turn_26 : decode cX7_turn 26 = .ok (.invokevirtual 127, 3) := by decide +kernel
theorem dX7_turn_29 : decode cX7_turn 29 = .ok (.iastore, 1) := by decide +kernel
theorem dX7_turn_30 : decode cX7_turn 30 = .ok (.aload_n 0, 1) := by decide +kernel
theorem dX7_turn_31 : decode cX7_turn 31 = .ok (.getfield 7, 3) := by decide +kernel
theorem dX7_turn_34 : decode cX7_turn 34 = .ok (.iconst 2, 1) := by decide +kernel
theorem dX7_turn_35 : decode cX7_turn 35 = .ok (.iload_n 1, 1) := by decide +kernel
theorem dX7_turn_36 : decode cX7_turn 36 = .ok (.imul, 1) := by decide +kernel
theorem dX7_turn_37 : decode cX7_turn 37 = .ok (.iconst 1, 1) := by decide +kernel
theorem dX7_turn_38 : decode cX7_turn 38 = .ok (.iadd, 1) := by decide +kernel
theorem dX7_turn_39 : decode cX7_turn 39 = .ok (.iload_n 2, 1) := by decide +kernel
theorem dX7_turn_40 : decode cX7_turn 40 = .ok (.iastore, 1) := by decide +kernel
theorem dX7_turn_41 : decode cX7_turn 41 = .ok (.aload_n 0, 1) := by decide +kernel
theorem dX7_turn_42 : decode cX7_turn 42 = .ok (.invokevirtual 99, 3) := by decide +kernel
theorem dX7_turn_45 : decode cX7_turn 45 = .ok (.aload_n 0, 1) := by decide +kernel
theorem dX7_turn_46 : decode cX7_turn 46 = .ok (.iload_n 1, 1) := by decide +kernel
theorem dX7_turn_47 : decode cX7_turn 47 = .ok (.invokevirtual 124, 3) := by decide +kernel
theorem dX7_turn_50 : decode cX7_turn 50 = .ok (.ireturn, 1) := by decide +kernel
theorem dX7_saidNow_0 : decode cX7_saidNow 0 = .ok (.iload_n 1, 1) := by decide +kernel
theorem dX7_saidNow_1 : decode cX7_saidNow 1 = .ok (.tableswitch 81 0 4 #[35, 40, 45, 50, 65], 35) := by decide +kernel
theorem dX7_saidNow_36 : decode cX7_saidNow 36 = .ok (.aload_n 0, 1) := by decide +kernel
theorem dX7_saidNow_37 : decode cX7_saidNow 37 = .ok (.invokevirtual 102, 3) := by decide +kernel
theorem dX7_saidNow_40 : decode cX7_saidNow 40 = .ok (.ireturn, 1) := by decide +kernel
theorem dX7_saidNow_41 : decode cX7_saidNow 41 = .ok (.aload_n 0, 1) := by decide +kernel
theorem dX7_saidNow_42 : decode cX7_saidNow 42 = .ok (.invokevirtual 105, 3) := by decide +kernel
theorem dX7_saidNow_45 : decode cX7_saidNow 45 = .ok (.ireturn, 1) := by decide +kernel
theorem dX7_saidNow_46 : decode cX7_saidNow 46 = .ok (.aload_n 0, 1) := by decide +kernel
theorem dX7_saidNow_47 : decode cX7_saidNow 47 = .ok (.invokevirtual 108, 3) := by decide +kernel
theorem dX7_saidNow_50 : decode cX7_saidNow 50 = .ok (.ireturn, 1) := by decide +kernel
theorem dX7_saidNow_51 : decode cX7_saidNow 51 = .ok (.aload_n 0, 1) := by decide +kernel
theorem dX7_saidNow_52 : decode cX7_saidNow 52 = .ok (.aload_n 0, 1) := by decide +kernel
theorem dX7_saidNow_53 : decode cX7_saidNow 53 = .ok (.getfield 34, 3) := by decide +kernel
theorem dX7_saidNow_56 : decode cX7_saidNow 56 = .ok (.iconst 4, 1) := by decide +kernel
theorem dX7_saidNow_57 : decode cX7_saidNow 57 = .ok (.iaload, 1) := by decide +kernel
theorem dX7_saidNow_58 : decode cX7_saidNow 58 = .ok (.bipush 97, 2) := by decide +kernel
theorem dX7_saidNow_60 : decode cX7_saidNow 60 = .ok (.isub, 1) := by decide +kernel
theorem dX7_saidNow_61 : decode cX7_saidNow 61 = .ok (.iconst 1, 1) := by decide +kernel
theorem dX7_saidNow_62 : decode cX7_saidNow 62 = .ok (.invokevirtual 111, 3) := by decide +kernel
theorem dX7_saidNow_65 : decode cX7_saidNow 65 = .ok (.ireturn, 1) := by decide +kernel
theorem dX7_saidNow_66 : decode cX7_saidNow 66 = .ok (.aload_n 0, 1) := by decide +kernel
theorem dX7_saidNow_67 : decode cX7_saidNow 67 = .ok (.aload_n 0, 1) := by decide +kernel
theorem dX7_saidNow_68 : decode cX7_saidNow 68 = .ok (.getfield 34, 3) := by decide +kernel
theorem dX7_saidNow_71 : decode cX7_saidNow 71 = .ok (.bipush 6, 2) := by decide +kernel
theorem dX7_saidNow_73 : decode cX7_saidNow 73 = .ok (.iaload, 1) := by decide +kernel
theorem dX7_saidNow_74 : decode cX7_saidNow 74 = .ok (.bipush 97, 2) := by decide +kernel
theorem dX7_saidNow_76 : decode cX7_saidNow 76 = .ok (.isub, 1) := by decide +kernel
theorem dX7_saidNow_77 : decode cX7_saidNow 77 = .ok (.iconst 0, 1) := by decide +kernel
theorem dX7_saidNow_78 : decode cX7_saidNow 78 = .ok (.invokevirtual 111, 3) := by decide +kernel
theorem dX7_saidNow_81 : decode cX7_saidNow 81 = .ok (.ireturn, 1) := by decide +kernel
theorem dX7_saidNow_82 : decode cX7_saidNow 82 = .ok (.aload_n 0, 1) := by decide +kernel
theorem dX7_saidNow_83 : decode cX7_saidNow 83 = .ok (.aload_n 0, 1) := by decide +kernel
theorem dX7_saidNow_84 : decode cX7_saidNow 84 = .ok (.getfield 34, 3) := by decide +kernel
theorem dX7_saidNow_87 : decode cX7_saidNow 87 = .ok (.iconst 5, 1) := by decide +kernel
theorem dX7_saidNow_88 : decode cX7_saidNow 88 = .ok (.iaload, 1) := by decide +kernel
theorem dX7_saidNow_89 : decode cX7_saidNow 89 = .ok (.bipush 48, 2) := by decide +kernel
theorem dX7_saidNow_91 : decode cX7_saidNow 91 = .ok (.isub, 1) := by decide +kernel
theorem dX7_saidNow_92 : decode cX7_saidNow 92 = .ok (.invokevirtual 115, 3) := by decide +kernel
theorem dX7_saidNow_95 : decode cX7_saidNow 95 = .ok (.ireturn, 1) := by decide +kernel
theorem dX7_say_0 : decode cX7_say 0 = .ok (.aload_n 0, 1) := by decide +kernel
theorem dX7_say_1 : decode cX7_say 1 = .ok (.invokevirtual 118, 3) := by decide +kernel
theorem dX7_say_4 : decode cX7_say 4 = .ok (.istore_n 1, 1) := by decide +kernel
theorem dX7_say_5 : decode cX7_say 5 = .ok (.iload_n 1, 1) := by decide +kernel
theorem dX7_say_6 : decode cX7_say 6 = .ok (.iconst (-1), 1) := by decide +kernel
theorem dX7_say_7 : decode cX7_say 7 = .ok (.if_icmp .ne 6, 3) := by decide +kernel
theorem dX7_say_10 : decode cX7_say 10 = .ok (.bipush (-103), 2) := by decide +kernel
theorem dX7_say_12 : decode cX7_say 12 = .ok (.ireturn, 1) := by decide +kernel
theorem dX7_say_13 : decode cX7_say 13 = .ok (.aload_n 0, 1) := by decide +kernel
theorem dX7_say_14 : decode cX7_say 14 = .ok (.iload_n 1, 1) := by decide +kernel
theorem dX7_say_15 : decode cX7_say 15 = .ok (.invokevirtual 121, 3) := by decide +kernel
theorem dX7_say_18 : decode cX7_say 18 = .ok (.istore_n 2, 1) := by decide +kernel
theorem dX7_say_19 : decode cX7_say 19 = .ok (.iload_n 2, 1) := by decide +kernel
theorem dX7_say_20 : decode cX7_say 20 = .ok (.iconst (-1), 1) := by decide +kernel
theorem dX7_say_21 : decode cX7_say 21 = .ok (.if_icmp .lt 8, 3) := by decide +kernel
theorem dX7_say_24 : decode cX7_say 24 = .ok (.aload_n 0, 1) := by decide +kernel
theorem dX7_say_25 : decode cX7_say 25 = .ok (.iconst 0, 1) := by decide +kernel
theorem dX7_say_26 : decode cX7_say 26 = .ok (.putfield 51, 3) := by decide +kernel
theorem dX7_say_29 : decode cX7_say 29 = .ok (.iload_n 2, 1) := by decide +kernel
theorem dX7_say_30 : decode cX7_say 30 = .ok (.ireturn, 1) := by decide +kernel
theorem dX7_fits_0 : decode cX7_fits 0 = .ok (.iconst 1, 1) := by decide +kernel
theorem dX7_fits_1 : decode cX7_fits 1 = .ok (.istore_n 1, 1) := by decide +kernel
theorem dX7_fits_2 : decode cX7_fits 2 = .ok (.iconst 0, 1) := by decide +kernel
theorem dX7_fits_3 : decode cX7_fits 3 = .ok (.istore_n 2, 1) := by decide +kernel
theorem dX7_fits_4 : decode cX7_fits 4 = .ok (.iload_n 2, 1) := by decide +kernel
theorem dX7_fits_5 : decode cX7_fits 5 = .ok (.aload_n 0, 1) := by decide +kernel
theorem dX7_fits_6 : decode cX7_fits 6 = .ok (.getfield 130, 3) := by decide +kernel
theorem dX7_fits_9 : decode cX7_fits 9 = .ok (.if_icmp .ge 64, 3) := by decide +kernel
theorem dX7_fits_12 : decode cX7_fits 12 = .ok (.iload_n 1, 1) := by decide +kernel
theorem dX7_fits_13 : decode cX7_fits 13 = .ok (.ifCond .eq 17, 3) := by decide +kernel
theorem dX7_fits_16 : decode cX7_fits 16 = .ok (.aload_n 0, 1) := by decide +kernel
theorem dX7_fits_17 : decode cX7_fits 17 = .ok (.getfield 22, 3) := by decide +kernel
theorem dX7_fits_20 : decode cX7_fits 20 = .ok (.iload_n 2, 1) := by decide +kernel
theorem dX7_fits_21 : decode cX7_fits 21 = .ok (.iaload, 1) := by decide +kernel
theorem dX7_fits_22 : decode cX7_fits 22 = .ok (.iconst (-1), 1) := by decide +kernel
theorem dX7_fits_23 : decode cX7_fits 23 = .ok (.if_icmp .eq 7, 3) := by decide +kernel
theorem dX7_fits_26 : decode cX7_fits 26 = .ok (.iconst 1, 1) := by decide +kernel
theorem dX7_fits_27 : decode cX7_fits 27 = .ok (.goto 4, 3) := by decide +kernel
theorem dX7_fits_30 : decode cX7_fits 30 = .ok (.iconst 0, 1) := by decide +kernel
theorem dX7_fits_31 : decode cX7_fits 31 = .ok (.istore_n 1, 1) := by decide +kernel
theorem dX7_fits_32 : decode cX7_fits 32 = .ok (.iconst 0, 1) := by decide +kernel
theorem dX7_fits_33 : decode cX7_fits 33 = .ok (.istore_n 3, 1) := by decide +kernel
theorem dX7_fits_34 : decode cX7_fits 34 = .ok (.iload_n 3, 1) := by decide +kernel
theorem dX7_fits_35 : decode cX7_fits 35 = .ok (.aload_n 0, 1) := by decide +kernel
theorem dX7_fits_36 : decode cX7_fits 36 = .ok (.getfield 130, 3) := by decide +kernel
theorem dX7_fits_39 : decode cX7_fits 39 = .ok (.if_icmp .ge 28, 3) := by decide +kernel
theorem dX7_fits_42 : decode cX7_fits 42 = .ok (.iload_n 1, 1) := by decide +kernel
theorem dX7_fits_43 : decode cX7_fits 43 = .ok (.ifCond .eq 16, 3) := by decide +kernel
theorem dX7_fits_46 : decode cX7_fits 46 = .ok (.aload_n 0, 1) := by decide +kernel
theorem dX7_fits_47 : decode cX7_fits 47 = .ok (.iload_n 2, 1) := by decide +kernel
theorem dX7_fits_48 : decode cX7_fits 48 = .ok (.iload_n 3, 1) := by decide +kernel
theorem dX7_fits_49 : decode cX7_fits 49 = .ok (.invokevirtual 182, 3) := by decide +kernel
theorem dX7_fits_52 : decode cX7_fits 52 = .ok (.ifCond .eq 7, 3) := by decide +kernel
theorem dX7_fits_55 : decode cX7_fits 55 = .ok (.iconst 1, 1) := by decide +kernel
theorem dX7_fits_56 : decode cX7_fits 56 = .ok (.goto 4, 3) := by decide +kernel
theorem dX7_fits_59 : decode cX7_fits 59 = .ok (.iconst 0, 1) := by decide +kernel
theorem dX7_fits_60 : decode cX7_fits 60 = .ok (.istore_n 1, 1) := by decide +kernel
theorem dX7_fits_61 : decode cX7_fits 61 = .ok (.iinc 3 1, 3) := by decide +kernel
theorem dX7_fits_64 : decode cX7_fits 64 = .ok (.goto (-30), 3) := by decide +kernel
theorem dX7_fits_67 : decode cX7_fits 67 = .ok (.iinc 2 1, 3) := by decide +kernel
theorem dX7_fits_70 : decode cX7_fits 70 = .ok (.goto (-66), 3) := by decide +kernel
theorem dX7_fits_73 : decode cX7_fits 73 = .ok (.iload_n 1, 1) := by decide +kernel
theorem dX7_fits_74 : decode cX7_fits 74 = .ok (.ireturn, 1) := by decide +kernel
theorem dX7_flat_0 : decode cX7_flat 0 = .ok (.iconst 0, 1) := by decide +kernel
theorem dX7_flat_1 : decode cX7_flat 1 = .ok (.istore_n 3, 1) := by decide +kernel
theorem dX7_flat_2 : decode cX7_flat 2 = .ok (.iconst 0, 1) := by decide +kernel
theorem dX7_flat_3 : decode cX7_flat 3 = .ok (.istore 4, 2) := by decide +kernel
theorem dX7_flat_5 : decode cX7_flat 5 = .ok (.iload 4, 2) := by decide +kernel
theorem dX7_flat_7 : decode cX7_flat 7 = .ok (.aload_n 0, 1) := by decide +kernel
theorem dX7_flat_8 : decode cX7_flat 8 = .ok (.getfield 130, 3) := by decide +kernel
theorem dX7_flat_11 : decode cX7_flat 11 = .ok (.if_icmp .ge 46, 3) := by decide +kernel
theorem dX7_flat_14 : decode cX7_flat 14 = .ok (.iload_n 3, 1) := by decide +kernel
theorem dX7_flat_15 : decode cX7_flat 15 = .ok (.aload_n 0, 1) := by decide +kernel
theorem dX7_flat_16 : decode cX7_flat 16 = .ok (.getfield 22, 3) := by decide +kernel
theorem dX7_flat_19 : decode cX7_flat 19 = .ok (.iload 4, 2) := by decide +kernel
theorem dX7_flat_21 : decode cX7_flat 21 = .ok (.iaload, 1) := by decide +kernel
theorem dX7_flat_22 : decode cX7_flat 22 = .ok (.iload_n 1, 1) := by decide +kernel
theorem dX7_flat_23 : decode cX7_flat 23 = .ok (.if_icmp .ne 25, 3) := by decide +kernel
theorem dX7_flat_26 : decode cX7_flat 26 = .ok (.aload_n 0, 1) := by decide +kernel
theorem dX7_flat_27 : decode cX7_flat 27 = .ok (.iload 4, 2) := by decide +kernel
theorem dX7_flat_29 : decode cX7_flat 29 = .ok (.iload_n 2, 1) := by decide +kernel
theorem dX7_flat_30 : decode cX7_flat 30 = .ok (.invokevirtual 140, 3) := by decide +kernel
theorem dX7_flat_33 : decode cX7_flat 33 = .ok (.ifCond .eq 15, 3) := by decide +kernel
theorem dX7_flat_36 : decode cX7_flat 36 = .ok (.iconst 1, 1) := by decide +kernel
theorem dX7_flat_37 : decode cX7_flat 37 = .ok (.aload_n 0, 1) := by decide +kernel
theorem dX7_flat_38 : decode cX7_flat 38 = .ok (.getfield 13, 3) := by decide +kernel
theorem dX7_flat_41 : decode cX7_flat 41 = .ok (.iload 4, 2) := by decide +kernel
theorem dX7_flat_43 : decode cX7_flat 43 = .ok (.iaload, 1) := by decide +kernel
theorem dX7_flat_44 : decode cX7_flat 44 = .ok (.ishl, 1) := by decide +kernel
theorem dX7_flat_45 : decode cX7_flat 45 = .ok (.goto 4, 3) := by decide +kernel
theorem dX7_flat_48 : decode cX7_flat 48 = .ok (.iconst 0, 1) := by decide +kernel
theorem dX7_flat_49 : decode cX7_flat 49 = .ok (.ior, 1) := by decide +kernel
theorem dX7_flat_50 : decode cX7_flat 50 = .ok (.istore_n 3, 1) := by decide +kernel
theorem dX7_flat_51 : decode cX7_flat 51 = .ok (.iinc 4 1, 3) := by decide +kernel
theorem dX7_flat_54 : decode cX7_flat 54 = .ok (.goto (-49), 3) := by decide +kernel
theorem dX7_flat_57 : decode cX7_flat 57 = .ok (.iload_n 3, 1) := by decide +kernel
theorem dX7_flat_58 : decode cX7_flat 58 = .ok (.ireturn, 1) := by decide +kernel
theorem dX7_upright_0 : decode cX7_upright 0 = .ok (.aload_n 0, 1) := by decide +kernel
theorem dX7_upright_1 : decode cX7_upright 1 = .ok (.iload_n 2, 1) := by decide +kernel
theorem dX7_upright_2 : decode cX7_upright 2 = .ok (.invokevirtual 124, 3) := by decide +kernel
theorem dX7_upright_5 : decode cX7_upright 5 = .ok (.iconst (-1), 1) := by decide +kernel
theorem dX7_upright_6 : decode cX7_upright 6 = .ok (.if_icmp .eq 26, 3) := by decide +kernel
theorem dX7_upright_9 : decode cX7_upright 9 = .ok (.aload_n 0, 1) := by decide +kernel
theorem dX7_upright_10 : decode cX7_upright 10 = .ok (.iload_n 2, 1) := by decide +kernel
theorem dX7_upright_11 : decode cX7_upright 11 = .ok (.invokevirtual 124, 3) := by decide +kernel
theorem dX7_upright_14 : decode cX7_upright 14 = .ok (.aload_n 0, 1) := by decide +kernel
theorem dX7_upright_15 : decode cX7_upright 15 = .ok (.iload_n 2, 1) := by decide +kernel
theorem dX7_upright_16 : decode cX7_upright 16 = .ok (.invokevirtual 127, 3) := by decide +kernel
theorem dX7_upright_19 : decode cX7_upright 19 = .ok (.if_icmp .ne 13, 3) := by decide +kernel
theorem dX7_upright_22 : decode cX7_upright 22 = .ok (.iconst 1, 1) := by decide +kernel
theorem dX7_upright_23 : decode cX7_upright 23 = .ok (.aload_n 0, 1) := by decide +kernel
theorem dX7_upright_24 : decode cX7_upright 24 = .ok (.iload_n 2, 1) := by decide +kernel
theorem dX7_upright_25 : decode cX7_upright 25 = .ok (.invokevirtual 124, 3) := by decide +kernel
theorem dX7_upright_28 : decode cX7_upright 28 = .ok (.ishl, 1) := by decide +kernel
theorem dX7_upright_29 : decode cX7_upright 29 = .ok (.goto 4, 3) := by decide +kernel
theorem dX7_upright_32 : decode cX7_upright 32 = .ok (.iconst 0, 1) := by decide +kernel
theorem dX7_upright_33 : decode cX7_upright 33 = .ok (.istore_n 3, 1) := by decide +kernel
theorem dX7_upright_34 : decode cX7_upright 34 = .ok (.iconst 0, 1) := by decide +kernel
theorem dX7_upright_35 : decode cX7_upright 35 = .ok (.istore 4, 2) := by decide +kernel
theorem dX7_upright_37 : decode cX7_upright 37 = .ok (.iload 4, 2) := by decide +kernel
theorem dX7_upright_39 : decode cX7_upright 39 = .ok (.aload_n 0, 1) := by decide +kernel
theorem dX7_upright_40 : decode cX7_upright 40 = .ok (.getfield 130, 3) := by decide +kernel
theorem dX7_upright_43 : decode cX7_upright 43 = .ok (.if_icmp .ge 134, 3) := by decide +kernel
theorem dX7_upright_46 : decode cX7_upright 46 = .ok (.aload_n 0, 1) := by decide +kernel
theorem dX7_upright_47 : decode cX7_upright 47 = .ok (.getfield 22, 3) := by decide +kernel
theorem dX7_upright_50 : decode cX7_upright 50 = .ok (.iload 4, 2) := by decide +kernel
theorem dX7_upright_52 : decode cX7_upright 52 = .ok (.iaload, 1) := by decide +kernel
theorem dX7_upright_53 : decode cX7_upright 53 = .ok (.iconst (-1), 1) := by decide +kernel
theorem dX7_upright_54 : decode cX7_upright 54 = .ok (.if_icmp .eq 17, 3) := by decide +kernel
theorem dX7_upright_57 : decode cX7_upright 57 = .ok (.aload_n 0, 1) := by decide +kernel
theorem dX7_upright_58 : decode cX7_upright 58 = .ok (.iload 4, 2) := by decide +kernel
theorem dX7_upright_60 : decode cX7_upright 60 = .ok (.iload_n 2, 1) := by decide +kernel
theorem dX7_upright_61 : decode cX7_upright 61 = .ok (.invokevirtual 143, 3) := by decide +kernel
theorem dX7_upright_64 : decode cX7_upright 64 = .ok (.ifCond .eq 7, 3) := by decide +kernel
theorem dX7_upright_67 : decode cX7_upright 67 = .ok (.iconst 1, 1) := by decide +kernel
theorem dX7_upright_68 : decode cX7_upright 68 = .ok (.goto 4, 3) := by decide +kernel
theorem dX7_upright_71 : decode cX7_upright 71 = .ok (.iconst 0, 1) := by decide +kernel
theorem dX7_upright_72 : decode cX7_upright 72 = .ok (.istore 5, 2) := by decide +kernel
theorem dX7_upright_74 : decode cX7_upright 74 = .ok (.aload_n 0, 1) := by decide +kernel
theorem dX7_upright_75 : decode cX7_upright 75 = .ok (.getfield 13, 3) := by decide +kernel
theorem dX7_upright_78 : decode cX7_upright 78 = .ok (.iload 4, 2) := by decide +kernel
theorem dX7_upright_80 : decode cX7_upright 80 = .ok (.iaload, 1) := by decide +kernel
theorem dX7_upright_81 : decode cX7_upright 81 = .ok (.aload_n 0, 1) := by decide +kernel
theorem dX7_upright_82 : decode cX7_upright 82 = .ok (.iload_n 2, 1) := by decide +kernel
theorem dX7_upright_83 : decode cX7_upright 83 = .ok (.invokevirtual 124, 3) := by decide +kernel
theorem dX7_upright_86 : decode cX7_upright 86 = .ok (.if_icmp .ne 18, 3) := by decide +kernel
theorem dX7_upright_89 : decode cX7_upright 89 = .ok (.aload_n 0, 1) := by decide +kernel
theorem dX7_upright_90 : decode cX7_upright 90 = .ok (.getfield 22, 3) := by decide +kernel
theorem dX7_upright_93 : decode cX7_upright 93 = .ok (.iload 4, 2) := by decide +kernel
theorem dX7_upright_95 : decode cX7_upright 95 = .ok (.iaload, 1) := by decide +kernel
theorem dX7_upright_96 : decode cX7_upright 96 = .ok (.iload_n 1, 1) := by decide +kernel
theorem dX7_upright_97 : decode cX7_upright 97 = .ok (.if_icmp .lt 7, 3) := by decide +kernel
theorem dX7_upright_100 : decode cX7_upright 100 = .ok (.iconst 1, 1) := by decide +kernel
theorem dX7_upright_101 : decode cX7_upright 101 = .ok (.goto 4, 3) := by decide +kernel
theorem dX7_upright_104 : decode cX7_upright 104 = .ok (.iconst 0, 1) := by decide +kernel
theorem dX7_upright_105 : decode cX7_upright 105 = .ok (.istore 6, 2) := by decide +kernel
theorem dX7_upright_107 : decode cX7_upright 107 = .ok (.aload_n 0, 1) := by decide +kernel
theorem dX7_upright_108 : decode cX7_upright 108 = .ok (.getfield 13, 3) := by decide +kernel
theorem dX7_upright_111 : decode cX7_upright 111 = .ok (.iload 4, 2) := by decide +kernel
theorem dX7_upright_113 : decode cX7_upright 113 = .ok (.iaload, 1) := by decide +kernel
theorem dX7_upright_114 : decode cX7_upright 114 = .ok (.aload_n 0, 1) := by decide +kernel
theorem dX7_upright_115 : decode cX7_upright 115 = .ok (.iload_n 2, 1) := by decide +kernel
theorem dX7_upright_116 : decode cX7_upright 116 = .ok (.invokevirtual 127, 3) := by decide +kernel
theorem dX7_upright_119 : decode cX7_upright 119 = .ok (.if_icmp .ne 18, 3) := by decide +kernel
theorem dX7_upright_122 : decode cX7_upright 122 = .ok (.aload_n 0, 1) := by decide +kernel
theorem dX7_upright_123 : decode cX7_upright 123 = .ok (.getfield 22, 3) := by decide +kernel
theorem dX7_upright_126 : decode cX7_upright 126 = .ok (.iload 4, 2) := by decide +kernel
theorem dX7_upright_128 : decode cX7_upright 128 = .ok (.iaload, 1) := by decide +kernel
theorem dX7_upright_129 : decode cX7_upright 129 = .ok (.iload_n 1, 1) := by decide +kernel
theorem dX7_upright_130 : decode cX7_upright 130 = .ok (.if_icmp .gt 7, 3) := by decide +kernel
theorem dX7_upright_133 : decode cX7_upright 133 = .ok (.iconst 1, 1) := by decide +kernel
theorem dX7_upright_134 : decode cX7_upright 134 = .ok (.goto 4, 3) := by decide +kernel
theorem dX7_upright_137 : decode cX7_upright 137 = .ok (.iconst 0, 1) := by decide +kernel
theorem dX7_upright_138 : decode cX7_upright 138 = .ok (.istore 7, 2) := by decide +kernel
theorem dX7_upright_140 : decode cX7_upright 140 = .ok (.iload_n 3, 1) := by decide +kernel
theorem dX7_upright_141 : decode cX7_upright 141 = .ok (.iload 5, 2) := by decide +kernel
theorem dX7_upright_143 : decode cX7_upright 143 = .ok (.ifCond .eq 25, 3) := by decide +kernel
theorem dX7_upright_146 : decode cX7_upright 146 = .ok (.iload 6, 2) := by decide +kernel
theorem dX7_upright_148 : decode cX7_upright 148 = .ok (.ifCond .ne 8, 3) := by decide +kernel
theorem dX7_upright_151 : decode cX7_upright 151 = .ok (.iload 7, 2) := by decide +kernel
theorem dX7_upright_153 : decode cX7_upright 153 = .ok (.ifCond .eq 15, 3) := by decide +kernel
theorem dX7_upright_156 : decode cX7_upright 156 = .ok (.iconst 1, 1) := by decide +kernel
theorem dX7_upright_157 : decode cX7_upright 157 = .ok (.aload_n 0, 1) := by decide +kernel
theorem dX7_upright_158 : decode cX7_upright 158 = .ok (.getfield 13, 3) := by decide +kernel
theorem dX7_upright_161 : decode cX7_upright 161 = .ok (.iload 4, 2) := by decide +kernel
theorem dX7_upright_163 : decode cX7_upright 163 = .ok (.iaload, 1) := by decide +kernel
theorem dX7_upright_164 : decode cX7_upright 164 = .ok (.ishl, 1) := by decide +kernel
theorem dX7_upright_165 : decode cX7_upright 165 = .ok (.goto 4, 3) := by decide +kernel
theorem dX7_upright_168 : decode cX7_upright 168 = .ok (.iconst 0, 1) := by decide +kernel
theorem dX7_upright_169 : decode cX7_upright 169 = .ok (.ior, 1) := by decide +kernel
theorem dX7_upright_170 : decode cX7_upright 170 = .ok (.istore_n 3, 1) := by decide +kernel
theorem dX7_upright_171 : decode cX7_upright 171 = .ok (.iinc 4 1, 3) := by decide +kernel
theorem dX7_upright_174 : decode cX7_upright 174 = .ok (.goto (-137), 3) := by decide +kernel
theorem dX7_upright_177 : decode cX7_upright 177 = .ok (.iload_n 3, 1) := by decide +kernel
theorem dX7_upright_178 : decode cX7_upright 178 = .ok (.ireturn, 1) := by decide +kernel
theorem dX7_clashes_0 : decode cX7_clashes 0 = .ok (.iconst 0, 1) := by decide +kernel
theorem dX7_clashes_1 : decode cX7_clashes 1 = .ok (.istore_n 1, 1) := by decide +kernel
theorem dX7_clashes_2 : decode cX7_clashes 2 = .ok (.iconst 0, 1) := by decide +kernel
theorem dX7_clashes_3 : decode cX7_clashes 3 = .ok (.istore_n 2, 1) := by decide +kernel
theorem dX7_clashes_4 : decode cX7_clashes 4 = .ok (.iload_n 2, 1) := by decide +kernel
theorem dX7_clashes_5 : decode cX7_clashes 5 = .ok (.aload_n 0, 1) := by decide +kernel
theorem dX7_clashes_6 : decode cX7_clashes 6 = .ok (.invokevirtual 185, 3) := by decide +kernel
theorem dX7_clashes_9 : decode cX7_clashes 9 = .ok (.if_icmp .ge 67, 3) := by decide +kernel
theorem dX7_clashes_12 : decode cX7_clashes 12 = .ok (.iconst 0, 1) := by decide +kernel
theorem dX7_clashes_13 : decode cX7_clashes 13 = .ok (.istore_n 3, 1) := by decide +kernel
theorem dX7_clashes_14 : decode cX7_clashes 14 = .ok (.iload_n 3, 1) := by decide +kernel
theorem dX7_clashes_15 : decode cX7_clashes 15 = .ok (.aload_n 0, 1) := by decide +kernel
theorem dX7_clashes_16 : decode cX7_clashes 16 = .ok (.getfield 87, 3) := by decide +kernel
theorem dX7_clashes_19 : decode cX7_clashes 19 = .ok (.if_icmp .ge 51, 3) := by decide +kernel
theorem dX7_clashes_22 : decode cX7_clashes 22 = .ok (.iload_n 1, 1) := by decide +kernel
theorem dX7_clashes_23 : decode cX7_clashes 23 = .ok (.aload_n 0, 1) := by decide +kernel
theorem dX7_clashes_24 : decode cX7_clashes 24 = .ok (.iload_n 2, 1) := by decide +kernel
theorem dX7_clashes_25 : decode cX7_clashes 25 = .ok (.iload_n 3, 1) := by decide +kernel
theorem dX7_clashes_26 : decode cX7_clashes 26 = .ok (.invokevirtual 188, 3) := by decide +kernel
theorem dX7_clashes_29 : decode cX7_clashes 29 = .ok (.invokestatic 191, 3) := by decide +kernel
theorem dX7_clashes_32 : decode cX7_clashes 32 = .ok (.iconst 1, 1) := by decide +kernel
theorem dX7_clashes_33 : decode cX7_clashes 33 = .ok (.if_icmp .le 7, 3) := by decide +kernel
theorem dX7_clashes_36 : decode cX7_clashes 36 = .ok (.iconst 1, 1) := by decide +kernel
theorem dX7_clashes_37 : decode cX7_clashes 37 = .ok (.goto 4, 3) := by decide +kernel
theorem dX7_clashes_40 : decode cX7_clashes 40 = .ok (.iconst 0, 1) := by decide +kernel
theorem dX7_clashes_41 : decode cX7_clashes 41 = .ok (.iadd, 1) := by decide +kernel
theorem dX7_clashes_42 : decode cX7_clashes 42 = .ok (.istore_n 1, 1) := by decide +kernel
theorem dX7_clashes_43 : decode cX7_clashes 43 = .ok (.iload_n 1, 1) := by decide +kernel
theorem dX7_clashes_44 : decode cX7_clashes 44 = .ok (.aload_n 0, 1) := by decide +kernel
theorem dX7_clashes_45 : decode cX7_clashes 45 = .ok (.iload_n 2, 1) := by decide +kernel
theorem dX7_clashes_46 : decode cX7_clashes 46 = .ok (.iload_n 3, 1) := by decide +kernel
theorem dX7_clashes_47 : decode cX7_clashes 47 = .ok (.invokevirtual 194, 3) := by decide +kernel
theorem dX7_clashes_50 : decode cX7_clashes 50 = .ok (.invokestatic 191, 3) := by decide +kernel
theorem dX7_clashes_53 : decode cX7_clashes 53 = .ok (.iconst 1, 1) := by decide +kernel
theorem dX7_clashes_54 : decode cX7_clashes 54 = .ok (.if_icmp .le 7, 3) := by decide +kernel
theorem dX7_clashes_57 : decode cX7_clashes 57 = .ok (.iconst 1, 1) := by decide +kernel
theorem dX7_clashes_58 : decode cX7_clashes 58 = .ok (.goto 4, 3) := by decide +kernel
theorem dX7_clashes_61 : decode cX7_clashes 61 = .ok (.iconst 0, 1) := by decide +kernel
theorem dX7_clashes_62 : decode cX7_clashes 62 = .ok (.iadd, 1) := by decide +kernel
theorem dX7_clashes_63 : decode cX7_clashes 63 = .ok (.istore_n 1, 1) := by decide +kernel
theorem dX7_clashes_64 : decode cX7_clashes 64 = .ok (.iinc 3 1, 3) := by decide +kernel
theorem dX7_clashes_67 : decode cX7_clashes 67 = .ok (.goto (-53), 3) := by decide +kernel
theorem dX7_clashes_70 : decode cX7_clashes 70 = .ok (.iinc 2 1, 3) := by decide +kernel
theorem dX7_clashes_73 : decode cX7_clashes 73 = .ok (.goto (-69), 3) := by decide +kernel
theorem dX7_clashes_76 : decode cX7_clashes 76 = .ok (.iload_n 1, 1) := by decide +kernel
theorem dX7_clashes_77 : decode cX7_clashes 77 = .ok (.ireturn, 1) := by decide +kernel
theorem dX7_inkLength_0 : decode cX7_inkLength 0 = .ok (.aload_n 0, 1) := by decide +kernel
theorem dX7_inkLength_1 : decode cX7_inkLength 1 = .ok (.invokevirtual 197, 3) := by decide +kernel
theorem dX7_inkLength_4 : decode cX7_inkLength 4 = .ok (.ifCond .eq 26, 3) := by decide +kernel
theorem dX7_inkLength_7 : decode cX7_inkLength 7 = .ok (.aload_n 0, 1) := by decide +kernel
theorem dX7_inkLength_8 : decode cX7_inkLength 8 = .ok (.invokevirtual 185, 3) := by decide +kernel
theorem dX7_inkLength_11 : decode cX7_inkLength 11 = .ok (.ifCond .le 19, 3) := by decide +kernel
theorem dX7_inkLength_14 : decode cX7_inkLength 14 = .ok (.aload_n 0, 1) := by decide +kernel
theorem dX7_inkLength_15 : decode cX7_inkLength 15 = .ok (.invokevirtual 185, 3) := by decide +kernel
theorem dX7_inkLength_18 : decode cX7_inkLength 18 = .ok (.aload_n 0, 1) := by decide +kernel
theorem dX7_inkLength_19 : decode cX7_inkLength 19 = .ok (.getfield 87, 3) := by decide +kernel
theorem dX7_inkLength_22 : decode cX7_inkLength 22 = .ok (.iconst 1, 1) := by decide +kernel
theorem dX7_inkLength_23 : decode cX7_inkLength 23 = .ok (.iadd, 1) := by decide +kernel
theorem dX7_inkLength_24 : decode cX7_inkLength 24 = .ok (.imul, 1) := by decide +kernel
theorem dX7_inkLength_25 : decode cX7_inkLength 25 = .ok (.iconst 1, 1) := by decide +kernel
theorem dX7_inkLength_26 : decode cX7_inkLength 26 = .ok (.isub, 1) := by decide +kernel
theorem dX7_inkLength_27 : decode cX7_inkLength 27 = .ok (.goto 4, 3) := by decide +kernel
theorem dX7_inkLength_30 : decode cX7_inkLength 30 = .ok (.iconst 0, 1) := by decide +kernel
theorem dX7_inkLength_31 : decode cX7_inkLength 31 = .ok (.ireturn, 1) := by decide +kernel
theorem dX7_inkNow_0 : decode cX7_inkNow 0 = .ok (.iload_n 1, 1) := by decide +kernel
theorem dX7_inkNow_1 : decode cX7_inkNow 1 = .ok (.aload_n 0, 1) := by decide +kernel
theorem dX7_inkNow_2 : decode cX7_inkNow 2 = .ok (.getfield 87, 3) := by decide +kernel
theorem dX7_inkNow_5 : decode cX7_inkNow 5 = .ok (.iconst 1, 1) := by decide +kernel
theorem dX7_inkNow_6 : decode cX7_inkNow 6 = .ok (.iadd, 1) := by decide +kernel
theorem dX7_inkNow_7 : decode cX7_inkNow 7 = .ok (.irem, 1) := by decide +kernel
theorem dX7_inkNow_8 : decode cX7_inkNow 8 = .ok (.istore_n 2, 1) := by decide +kernel
theorem dX7_inkNow_9 : decode cX7_inkNow 9 = .ok (.iload_n 2, 1) := by decide +kernel
theorem dX7_inkNow_10 : decode cX7_inkNow 10 = .ok (.aload_n 0, 1) := by decide +kernel
theorem dX7_inkNow_11 : decode cX7_inkNow 11 = .ok (.getfield 87, 3) := by decide +kernel
theorem dX7_inkNow_14 : decode cX7_inkNow 14 = .ok (.if_icmp .ne 6, 3) := by decide +kernel
theorem dX7_inkNow_17 : decode cX7_inkNow 17 = .ok (.bipush 47, 2) := by decide +kernel
theorem dX7_inkNow_19 : decode cX7_inkNow 19 = .ok (.ireturn, 1) := by decide +kernel
theorem dX7_inkNow_20 : decode cX7_inkNow 20 = .ok (.aload_n 0, 1) := by decide +kernel
theorem dX7_inkNow_21 : decode cX7_inkNow 21 = .ok (.iload_n 1, 1) := by decide +kernel
theorem dX7_inkNow_22 : decode cX7_inkNow 22 = .ok (.aload_n 0, 1) := by decide +kernel
theorem dX7_inkNow_23 : decode cX7_inkNow 23 = .ok (.getfield 87, 3) := by decide +kernel
theorem dX7_inkNow_26 : decode cX7_inkNow 26 = .ok (.iconst 1, 1) := by decide +kernel
theorem dX7_inkNow_27 : decode cX7_inkNow 27 = .ok (.iadd, 1) := by decide +kernel
theorem dX7_inkNow_28 : decode cX7_inkNow 28 = .ok (.idiv, 1) := by decide +kernel
theorem dX7_inkNow_29 : decode cX7_inkNow 29 = .ok (.iload_n 2, 1) := by decide +kernel
theorem dX7_inkNow_30 : decode cX7_inkNow 30 = .ok (.invokevirtual 188, 3) := by decide +kernel
theorem dX7_inkNow_33 : decode cX7_inkNow 33 = .ok (.istore_n 3, 1) := by decide +kernel
theorem dX7_inkNow_34 : decode cX7_inkNow 34 = .ok (.iload_n 3, 1) := by decide +kernel
theorem dX7_inkNow_35 : decode cX7_inkNow 35 = .ok (.ifCond .ne 8, 3) := by decide +kernel
theorem dX7_inkNow_38 : decode cX7_inkNow 38 = .ok (.bipush 46, 2) := by decide +kernel
theorem dX7_inkNow_40 : decode cX7_inkNow 40 = .ok (.goto 23, 3) := by decide +kernel
theorem dX7_inkNow_43 : decode cX7_inkNow 43 = .ok (.iload_n 3, 1) := by decide +kernel
theorem dX7_inkNow_44 : decode cX7_inkNow 44 = .ok (.invokestatic 191, 3) := by decide +kernel
theorem dX7_inkNow_47 : decode cX7_inkNow 47 = .ok (.iconst 1, 1) := by decide +kernel
theorem dX7_inkNow_48 : decode cX7_inkNow 48 = .ok (.if_icmp .le 8, 3) := by decide +kernel
theorem dX7_inkNow_51 : decode cX7_inkNow 51 = .ok (.bipush 35, 2) := by decide +kernel
theorem dX7_inkNow_53 : decode cX7_inkNow 53 = .ok (.goto 10, 3) := by decide +kernel
theorem dX7_inkNow_56 : decode cX7_inkNow 56 = .ok (.bipush 97, 2) := by decide +kernel
theorem dX7_inkNow_58 : decode cX7_inkNow 58 = .ok (.iload_n 3, 1) := by decide +kernel
theorem dX7_inkNow_59 : decode cX7_inkNow 59 = .ok (.invokestatic 159, 3) := by decide +kernel
theorem dX7_inkNow_62 : decode cX7_inkNow 62 = .ok (.iadd, 1) := by decide +kernel
theorem dX7_inkNow_63 : decode cX7_inkNow 63 = .ok (.ireturn, 1) := by decide +kernel
theorem dX7_ink_0 : decode cX7_ink 0 = .ok (.iload_n 1, 1) := by decide +kernel
theorem dX7_ink_1 : decode cX7_ink 1 = .ok (.iconst 0, 1) := by decide +kernel
theorem dX7_ink_2 : decode cX7_ink 2 = .ok (.aload_n 0, 1) := by decide +kernel
theorem dX7_ink_3 : decode cX7_ink 3 = .ok (.invokevirtual 200, 3) := by decide +kernel
theorem dX7_ink_6 : decode cX7_ink 6 = .ok (.iconst 1, 1) := by decide +kernel
theorem dX7_ink_7 : decode cX7_ink 7 = .ok (.isub, 1) := by decide +kernel
theorem dX7_ink_8 : decode cX7_ink 8 = .ok (.invokestatic 47, 3) := by decide +kernel
theorem dX7_ink_11 : decode cX7_ink 11 = .ok (.ifCond .eq 11, 3) := by decide +kernel
theorem dX7_ink_14 : decode cX7_ink 14 = .ok (.aload_n 0, 1) := by decide +kernel
theorem dX7_ink_15 : decode cX7_ink 15 = .ok (.iload_n 1, 1) := by decide +kernel
theorem dX7_ink_16 : decode cX7_ink 16 = .ok (.invokevirtual 203, 3) := by decide +kernel
theorem dX7_ink_19 : decode cX7_ink 19 = .ok (.goto 5, 3) := by decide +kernel
theorem dX7_ink_22 : decode cX7_ink 22 = .ok (.bipush (-101), 2) := by decide +kernel
theorem dX7_ink_24 : decode cX7_ink 24 = .ok (.ireturn, 1) := by decide +kernel
theorem dX7_netsIn_0 : decode cX7_netsIn 0 = .ok (.iconst 0, 1) := by decide +kernel
theorem dX7_netsIn_1 : decode cX7_netsIn 1 = .ok (.istore_n 2, 1) := by decide +kernel
theorem dX7_netsIn_2 : decode cX7_netsIn 2 = .ok (.iconst 0, 1) := by decide +kernel
theorem dX7_netsIn_3 : decode cX7_netsIn 3 = .ok (.istore_n 3, 1) := by decide +kernel
theorem dX7_netsIn_4 : decode cX7_netsIn 4 = .ok (.iload_n 3, 1) := by decide +kernel
theorem dX7_netsIn_5 : decode cX7_netsIn 5 = .ok (.aload_n 0, 1) := by decide +kernel
theorem dX7_netsIn_6 : decode cX7_netsIn 6 = .ok (.getfield 130, 3) := by decide +kernel
theorem dX7_netsIn_9 : decode cX7_netsIn 9 = .ok (.if_icmp .ge 33, 3) := by decide +kernel
theorem dX7_netsIn_12 : decode cX7_netsIn 12 = .ok (.iload_n 2, 1) := by decide +kernel
theorem dX7_netsIn_13 : decode cX7_netsIn 13 = .ok (.aload_n 0, 1) := by decide +kernel
theorem dX7_netsIn_14 : decode cX7_netsIn 14 = .ok (.iload_n 3, 1) := by decide +kernel
theorem dX7_netsIn_15 : decode cX7_netsIn 15 = .ok (.iload_n 1, 1) := by decide +kernel
theorem dX7_netsIn_16 : decode cX7_netsIn 16 = .ok (.invokevirtual 140, 3) := by decide +kernel
theorem dX7_netsIn_19 : decode cX7_netsIn 19 = .ok (.ifCond .eq 14, 3) := by decide +kernel
theorem dX7_netsIn_22 : decode cX7_netsIn 22 = .ok (.iconst 1, 1) := by decide +kernel
theorem dX7_netsIn_23 : decode cX7_netsIn 23 = .ok (.aload_n 0, 1) := by decide +kernel
theorem dX7_netsIn_24 : decode cX7_netsIn 24 = .ok (.getfield 13, 3) := by decide +kernel
theorem dX7_netsIn_27 : decode cX7_netsIn 27 = .ok (.iload_n 3, 1) := by decide +kernel
theorem dX7_netsIn_28 : decode cX7_netsIn 28 = .ok (.iaload, 1) := by decide +kernel
theorem dX7_netsIn_29 : decode cX7_netsIn 29 = .ok (.ishl, 1) := by decide +kernel
theorem dX7_netsIn_30 : decode cX7_netsIn 30 = .ok (.goto 4, 3) := by decide +kernel
theorem dX7_netsIn_33 : decode cX7_netsIn 33 = .ok (.iconst 0, 1) := by decide +kernel
theorem dX7_netsIn_34 : decode cX7_netsIn 34 = .ok (.ior, 1) := by decide +kernel
theorem dX7_netsIn_35 : decode cX7_netsIn 35 = .ok (.istore_n 2, 1) := by decide +kernel
theorem dX7_netsIn_36 : decode cX7_netsIn 36 = .ok (.iinc 3 1, 3) := by decide +kernel
theorem dX7_netsIn_39 : decode cX7_netsIn 39 = .ok (.goto (-35), 3) := by decide +kernel
theorem dX7_netsIn_42 : decode cX7_netsIn 42 = .ok (.iload_n 2, 1) := by decide +kernel
theorem dX7_netsIn_43 : decode cX7_netsIn 43 = .ok (.ireturn, 1) := by decide +kernel
theorem dX7_density_0 : decode cX7_density 0 = .ok (.iconst 0, 1) := by decide +kernel
theorem dX7_density_1 : decode cX7_density 1 = .ok (.istore_n 1, 1) := by decide +kernel
theorem dX7_density_2 : decode cX7_density 2 = .ok (.iconst 0, 1) := by decide +kernel
theorem dX7_density_3 : decode cX7_density 3 = .ok (.istore_n 2, 1) := by decide +kernel
theorem dX7_density_4 : decode cX7_density 4 = .ok (.iload_n 2, 1) := by decide +kernel
theorem dX7_density_5 : decode cX7_density 5 = .ok (.aload_n 0, 1) := by decide +kernel
theorem dX7_density_6 : decode cX7_density 6 = .ok (.getfield 87, 3) := by decide +kernel
theorem dX7_density_9 : decode cX7_density 9 = .ok (.if_icmp .ge 29, 3) := by decide +kernel
theorem dX7_density_12 : decode cX7_density 12 = .ok (.aload_n 0, 1) := by decide +kernel
theorem dX7_density_13 : decode cX7_density 13 = .ok (.iload_n 2, 1) := by decide +kernel
theorem dX7_density_14 : decode cX7_density 14 = .ok (.invokevirtual 206, 3) := by decide +kernel
theorem dX7_density_17 : decode cX7_density 17 = .ok (.invokestatic 191, 3) := by decide +kernel
theorem dX7_density_20 : decode cX7_density 20 = .ok (.istore_n 3, 1) := by decide +kernel
theorem dX7_density_21 : decode cX7_density 21 = .ok (.iload_n 3, 1) := by decide +kernel
theorem dX7_density_22 : decode cX7_density 22 = .ok (.iload_n 1, 1) := by decide +kernel
theorem dX7_density_23 : decode cX7_density 23 = .ok (.if_icmp .le 7, 3) := by decide +kernel
theorem dX7_density_26 : decode cX7_density 26 = .ok (.iload_n 3, 1) := by decide +kernel
theorem dX7_density_27 : decode cX7_density 27 = .ok (.goto 4, 3) := by decide +kernel
theorem dX7_density_30 : decode cX7_density 30 = .ok (.iload_n 1, 1) := by decide +kernel
theorem dX7_density_31 : decode cX7_density 31 = .ok (.istore_n 1, 1) := by decide +kernel
theorem dX7_density_32 : decode cX7_density 32 = .ok (.iinc 2 1, 3) := by decide +kernel
theorem dX7_density_35 : decode cX7_density 35 = .ok (.goto (-31), 3) := by decide +kernel
theorem dX7_density_38 : decode cX7_density 38 = .ok (.iload_n 1, 1) := by decide +kernel
theorem dX7_density_39 : decode cX7_density 39 = .ok (.ireturn, 1) := by decide +kernel
theorem dX7_isZone_0 : decode cX7_isZone 0 = .ok (.aload_n 0, 1) := by decide +kernel
theorem dX7_isZone_1 : decode cX7_isZone 1 = .ok (.iload_n 1, 1) := by decide +kernel
theorem dX7_isZone_2 : decode cX7_isZone 2 = .ok (.invokevirtual 206, 3) := by decide +kernel
theorem dX7_isZone_5 : decode cX7_isZone 5 = .ok (.istore_n 2, 1) := by decide +kernel
theorem dX7_isZone_6 : decode cX7_isZone 6 = .ok (.iload_n 2, 1) := by decide +kernel
theorem dX7_isZone_7 : decode cX7_isZone 7 = .ok (.ifCond .eq 7, 3) := by decide +kernel
theorem dX7_isZone_10 : decode cX7_isZone 10 = .ok (.iconst 1, 1) := by decide +kernel
theorem dX7_isZone_11 : decode cX7_isZone 11 = .ok (.goto 4, 3) := by decide +kernel
theorem dX7_isZone_14 : decode cX7_isZone 14 = .ok (.iconst 0, 1) := by decide +kernel
theorem dX7_isZone_15 : decode cX7_isZone 15 = .ok (.istore_n 3, 1) := by decide +kernel
theorem dX7_isZone_16 : decode cX7_isZone 16 = .ok (.iconst 0, 1) := by decide +kernel
theorem dX7_isZone_17 : decode cX7_isZone 17 = .ok (.istore 4, 2) := by decide +kernel
theorem dX7_isZone_19 : decode cX7_isZone 19 = .ok (.iload 4, 2) := by decide +kernel
theorem dX7_isZone_21 : decode cX7_isZone 21 = .ok (.aload_n 0, 1) := by decide +kernel
theorem dX7_isZone_22 : decode cX7_isZone 22 = .ok (.getfield 87, 3) := by decide +kernel
theorem dX7_isZone_25 : decode cX7_isZone 25 = .ok (.if_icmp .ge 65, 3) := by decide +kernel
theorem dX7_isZone_28 : decode cX7_isZone 28 = .ok (.aload_n 0, 1) := by decide +kernel
theorem dX7_isZone_29 : decode cX7_isZone 29 = .ok (.iload 4, 2) := by decide +kernel
theorem dX7_isZone_31 : decode cX7_isZone 31 = .ok (.invokevirtual 206, 3) := by decide +kernel
theorem dX7_isZone_34 : decode cX7_isZone 34 = .ok (.istore 5, 2) := by decide +kernel
theorem dX7_isZone_36 : decode cX7_isZone 36 = .ok (.iload_n 2, 1) := by decide +kernel
theorem dX7_isZone_37 : decode cX7_isZone 37 = .ok (.iload 5, 2) := by decide +kernel
theorem dX7_isZone_39 : decode cX7_isZone 39 = .ok (.iand, 1) := by decide +kernel
theorem dX7_isZone_40 : decode cX7_isZone 40 = .ok (.iload_n 2, 1) := by decide +kernel
theorem dX7_isZone_41 : decode cX7_isZone 41 = .ok (.if_icmp .ne 7, 3) := by decide +kernel
theorem dX7_isZone_44 : decode cX7_isZone 44 = .ok (.iconst 1, 1) := by decide +kernel
theorem dX7_isZone_45 : decode cX7_isZone 45 = .ok (.goto 4, 3) := by decide +kernel
theorem dX7_isZone_48 : decode cX7_isZone 48 = .ok (.iconst 0, 1) := by decide +kernel
theorem dX7_isZone_49 : decode cX7_isZone 49 = .ok (.istore 6, 2) := by decide +kernel
theorem dX7_isZone_51 : decode cX7_isZone 51 = .ok (.iload_n 3, 1) := by decide +kernel
theorem dX7_isZone_52 : decode cX7_isZone 52 = .ok (.ifCond .eq 30, 3) := by decide +kernel
theorem dX7_isZone_55 : decode cX7_isZone 55 = .ok (.iload 6, 2) := by decide +kernel
theorem dX7_isZone_57 : decode cX7_isZone 57 = .ok (.ifCond .eq 9, 3) := by decide +kernel
theorem dX7_isZone_60 : decode cX7_isZone 60 = .ok (.iload 5, 2) := by decide +kernel
theorem dX7_isZone_62 : decode cX7_isZone 62 = .ok (.iload_n 2, 1) := by decide +kernel
theorem dX7_isZone_63 : decode cX7_isZone 63 = .ok (.if_icmp .ne 19, 3) := by decide +kernel
theorem dX7_isZone_66 : decode cX7_isZone 66 = .ok (.iload 5, 2) := by decide +kernel
theorem dX7_isZone_68 : decode cX7_isZone 68 = .ok (.iload_n 2, 1) := by decide +kernel
theorem dX7_isZone_69 : decode cX7_isZone 69 = .ok (.if_icmp .ne 9, 3) := by decide +kernel
theorem dX7_isZone_72 : decode cX7_isZone 72 = .ok (.iload 4, 2) := by decide +kernel
theorem dX7_isZone_74 : decode cX7_isZone 74 = .ok (.iload_n 1, 1) := by decide +kernel
theorem dX7_isZone_75 : decode cX7_isZone 75 = .ok (.if_icmp .lt 7, 3) := by decide +kernel
theorem dX7_isZone_78 : decode cX7_isZone 78 = .ok (.iconst 1, 1) := by decide +kernel
theorem dX7_isZone_79 : decode cX7_isZone 79 = .ok (.goto 4, 3) := by decide +kernel
theorem dX7_isZone_82 : decode cX7_isZone 82 = .ok (.iconst 0, 1) := by decide +kernel
theorem dX7_isZone_83 : decode cX7_isZone 83 = .ok (.istore_n 3, 1) := by decide +kernel
theorem dX7_isZone_84 : decode cX7_isZone 84 = .ok (.iinc 4 1, 3) := by decide +kernel
theorem dX7_isZone_87 : decode cX7_isZone 87 = .ok (.goto (-68), 3) := by decide +kernel
theorem dX7_isZone_90 : decode cX7_isZone 90 = .ok (.iload_n 3, 1) := by decide +kernel
theorem dX7_isZone_91 : decode cX7_isZone 91 = .ok (.ireturn, 1) := by decide +kernel
theorem dX7_zones_0 : decode cX7_zones 0 = .ok (.iconst 0, 1) := by decide +kernel
theorem dX7_zones_1 : decode cX7_zones 1 = .ok (.istore_n 2, 1) := by decide +kernel
theorem dX7_zones_2 : decode cX7_zones 2 = .ok (.iconst 0, 1) := by decide +kernel
theorem dX7_zones_3 : decode cX7_zones 3 = .ok (.istore_n 3, 1) := by decide +kernel
theorem dX7_zones_4 : decode cX7_zones 4 = .ok (.iload_n 3, 1) := by decide +kernel
theorem dX7_zones_5 : decode cX7_zones 5 = .ok (.aload_n 0, 1) := by decide +kernel
theorem dX7_zones_6 : decode cX7_zones 6 = .ok (.getfield 87, 3) := by decide +kernel
theorem dX7_zones_9 : decode cX7_zones 9 = .ok (.if_icmp .ge 31, 3) := by decide +kernel
theorem dX7_zones_12 : decode cX7_zones 12 = .ok (.aload_n 0, 1) := by decide +kernel
theorem dX7_zones_13 : decode cX7_zones 13 = .ok (.iload_n 3, 1) := by decide +kernel
theorem dX7_zones_14 : decode cX7_zones 14 = .ok (.invokevirtual 209, 3) := by decide +kernel
theorem dX7_zones_17 : decode cX7_zones 17 = .ok (.ifCond .eq 17, 3) := by decide +kernel
theorem dX7_zones_20 : decode cX7_zones 20 = .ok (.iload_n 2, 1) := by decide +kernel
theorem dX7_zones_21 : decode cX7_zones 21 = .ok (.iload_n 1, 1) := by decide +kernel
theorem dX7_zones_22 : decode cX7_zones 22 = .ok (.if_icmp .ne 9, 3) := by decide +kernel
theorem dX7_zones_25 : decode cX7_zones 25 = .ok (.aload_n 0, 1) := by decide +kernel
theorem dX7_zones_26 : decode cX7_zones 26 = .ok (.iload_n 3, 1) := by decide +kernel
theorem dX7_zones_27 : decode cX7_zones 27 = .ok (.invokevirtual 206, 3) := by decide +kernel
theorem dX7_zones_30 : decode cX7_zones 30 = .ok (.ireturn, 1) := by decide +kernel
theorem dX7_zones_31 : decode cX7_zones 31 = .ok (.iinc 2 1, 3) := by decide +kernel
theorem dX7_zones_34 : decode cX7_zones 34 = .ok (.iinc 3 1, 3) := by decide +kernel
theorem dX7_zones_37 : decode cX7_zones 37 = .ok (.goto (-33), 3) := by decide +kernel
theorem dX7_zones_40 : decode cX7_zones 40 = .ok (.iload_n 1, 1) := by decide +kernel
theorem dX7_zones_41 : decode cX7_zones 41 = .ok (.iconst (-1), 1) := by decide +kernel
theorem dX7_zones_42 : decode cX7_zones 42 = .ok (.if_icmp .ne 7, 3) := by decide +kernel
theorem dX7_zones_45 : decode cX7_zones 45 = .ok (.iload_n 2, 1) := by decide +kernel
theorem dX7_zones_46 : decode cX7_zones 46 = .ok (.goto 4, 3) := by decide +kernel
theorem dX7_zones_49 : decode cX7_zones 49 = .ok (.iconst (-1), 1) := by decide +kernel
theorem dX7_zones_50 : decode cX7_zones 50 = .ok (.ireturn, 1) := by decide +kernel
theorem dX7_levelOf_0 : decode cX7_levelOf 0 = .ok (.iconst 0, 1) := by decide +kernel
theorem dX7_levelOf_1 : decode cX7_levelOf 1 = .ok (.istore_n 2, 1) := by decide +kernel
theorem dX7_levelOf_2 : decode cX7_levelOf 2 = .ok (.iload_n 2, 1) := by decide +kernel
theorem dX7_levelOf_3 : decode cX7_levelOf 3 = .ok (.aload_n 0, 1) := by decide +kernel
theorem dX7_levelOf_4 : decode cX7_levelOf 4 = .ok (.getfield 130, 3) := by decide +kernel
