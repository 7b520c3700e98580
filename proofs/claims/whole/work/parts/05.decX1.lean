theorem dX3_rank_6 : decode cX3_rank 6 = .ok (.iconst 1, 1) := by decide +kernel
theorem dX3_rank_7 : decode cX3_rank 7 = .ok (.isub, 1) := by decide +kernel
theorem dX3_rank_8 : decode cX3_rank 8 = .ok (.istore_n 3, 1) := by decide +kernel
theorem dX3_rank_9 : decode cX3_rank 9 = .ok (.iconst 0, 1) := by decide +kernel
theorem dX3_rank_10 : decode cX3_rank 10 = .ok (.istore 4, 2) := by decide +kernel
theorem dX3_rank_12 : decode cX3_rank 12 = .ok (.iload_n 3, 1) := by decide +kernel
theorem dX3_rank_13 : decode cX3_rank 13 = .ok (.ifCond .eq 42, 3) := by decide +kernel
theorem dX3_rank_16 : decode cX3_rank 16 = .ok (.iload 4, 2) := by decide +kernel
theorem dX3_rank_18 : decode cX3_rank 18 = .ok (.aload_n 0, 1) := by decide +kernel
theorem dX3_rank_19 : decode cX3_rank 19 = .ok (.getfield 36, 3) := by decide +kernel
theorem dX3_rank_22 : decode cX3_rank 22 = .ok (.if_icmp .ge 33, 3) := by decide +kernel
theorem dX3_rank_25 : decode cX3_rank 25 = .ok (.aload_n 0, 1) := by decide +kernel
theorem dX3_rank_26 : decode cX3_rank 26 = .ok (.aload_n 1, 1) := by decide +kernel
theorem dX3_rank_27 : decode cX3_rank 27 = .ok (.iload_n 3, 1) := by decide +kernel
theorem dX3_rank_28 : decode cX3_rank 28 = .ok (.invokevirtual 87, 3) := by decide +kernel
theorem dX3_rank_31 : decode cX3_rank 31 = .ok (.istore 5, 2) := by decide +kernel
theorem dX3_rank_33 : decode cX3_rank 33 = .ok (.aload_n 0, 1) := by decide +kernel
theorem dX3_rank_34 : decode cX3_rank 34 = .ok (.aload_n 2, 1) := by decide +kernel
theorem dX3_rank_35 : decode cX3_rank 35 = .ok (.iload 5, 2) := by decide +kernel
theorem dX3_rank_37 : decode cX3_rank 37 = .ok (.iload 4, 2) := by decide +kernel
theorem dX3_rank_39 : decode cX3_rank 39 = .ok (.invokevirtual 91, 3) := by decide +kernel
theorem dX3_rank_42 : decode cX3_rank 42 = .ok (.iload_n 3, 1) := by decide +kernel
theorem dX3_rank_43 : decode cX3_rank 43 = .ok (.iload 5, 2) := by decide +kernel
theorem dX3_rank_45 : decode cX3_rank 45 = .ok (.iconst (-1), 1) := by decide +kernel
theorem dX3_rank_46 : decode cX3_rank 46 = .ok (.ixor, 1) := by decide +kernel
theorem dX3_rank_47 : decode cX3_rank 47 = .ok (.iand, 1) := by decide +kernel
theorem dX3_rank_48 : decode cX3_rank 48 = .ok (.istore_n 3, 1) := by decide +kernel
theorem dX3_rank_49 : decode cX3_rank 49 = .ok (.iinc 4 1, 3) := by decide +kernel
theorem dX3_rank_52 : decode cX3_rank 52 = .ok (.goto (-40), 3) := by decide +kernel
theorem dX3_rank_55 : decode cX3_rank 55 = .ok (.iload_n 3, 1) := by decide +kernel
theorem dX3_rank_56 : decode cX3_rank 56 = .ok (.ifCond .ne 6, 3) := by decide +kernel
theorem dX3_rank_59 : decode cX3_rank 59 = .ok (.iload 4, 2) := by decide +kernel
theorem dX3_rank_61 : decode cX3_rank 61 = .ok (.ireturn, 1) := by decide +kernel
theorem dX3_rank_62 : decode cX3_rank 62 = .ok (.aload_n 0, 1) := by decide +kernel
theorem dX3_rank_63 : decode cX3_rank 63 = .ok (.aload_n 2, 1) := by decide +kernel
theorem dX3_rank_64 : decode cX3_rank 64 = .ok (.iconst 1, 1) := by decide +kernel
theorem dX3_rank_65 : decode cX3_rank 65 = .ok (.aload_n 0, 1) := by decide +kernel
theorem dX3_rank_66 : decode cX3_rank 66 = .ok (.getfield 36, 3) := by decide +kernel
theorem dX3_rank_69 : decode cX3_rank 69 = .ok (.ishl, 1) := by decide +kernel
theorem dX3_rank_70 : decode cX3_rank 70 = .ok (.iconst 1, 1) := by decide +kernel
theorem dX3_rank_71 : decode cX3_rank 71 = .ok (.isub, 1) := by decide +kernel
theorem dX3_rank_72 : decode cX3_rank 72 = .ok (.iconst (-1), 1) := by decide +kernel
theorem dX3_rank_73 : decode cX3_rank 73 = .ok (.invokevirtual 91, 3) := by decide +kernel
theorem dX3_rank_76 : decode cX3_rank 76 = .ok (.iconst (-1), 1) := by decide +kernel
theorem dX3_rank_77 : decode cX3_rank 77 = .ok (.ireturn, 1) := by decide +kernel
theorem dX3_add_0 : decode cX3_add 0 = .ok (.aload_n 0, 1) := by decide +kernel
theorem dX3_add_1 : decode cX3_add 1 = .ok (.getfield 36, 3) := by decide +kernel
theorem dX3_add_4 : decode cX3_add 4 = .ok (.bipush 14, 2) := by decide +kernel
theorem dX3_add_6 : decode cX3_add 6 = .ok (.if_icmp .ge 74, 3) := by decide +kernel
theorem dX3_add_9 : decode cX3_add 9 = .ok (.aload_n 0, 1) := by decide +kernel
theorem dX3_add_10 : decode cX3_add 10 = .ok (.getfield 9, 3) := by decide +kernel
theorem dX3_add_13 : decode cX3_add 13 = .ok (.aload_n 0, 1) := by decide +kernel
theorem dX3_add_14 : decode cX3_add 14 = .ok (.getfield 36, 3) := by decide +kernel
theorem dX3_add_17 : decode cX3_add 17 = .ok (.iload_n 1, 1) := by decide +kernel
theorem dX3_add_18 : decode cX3_add 18 = .ok (.iastore, 1) := by decide +kernel
theorem dX3_add_19 : decode cX3_add 19 = .ok (.aload_n 0, 1) := by decide +kernel
theorem dX3_add_20 : decode cX3_add 20 = .ok (.getfield 15, 3) := by decide +kernel
theorem dX3_add_23 : decode cX3_add 23 = .ok (.aload_n 0, 1) := by decide +kernel
theorem dX3_add_24 : decode cX3_add 24 = .ok (.getfield 36, 3) := by decide +kernel
theorem dX3_add_27 : decode cX3_add 27 = .ok (.iload_n 2, 1) := by decide +kernel
theorem dX3_add_28 : decode cX3_add 28 = .ok (.iastore, 1) := by decide +kernel
theorem dX3_add_29 : decode cX3_add 29 = .ok (.aload_n 0, 1) := by decide +kernel
theorem dX3_add_30 : decode cX3_add 30 = .ok (.getfield 18, 3) := by decide +kernel
theorem dX3_add_33 : decode cX3_add 33 = .ok (.aload_n 0, 1) := by decide +kernel
theorem dX3_add_34 : decode cX3_add 34 = .ok (.getfield 36, 3) := by decide +kernel
theorem dX3_add_37 : decode cX3_add 37 = .ok (.iload_n 3, 1) := by decide +kernel
theorem dX3_add_38 : decode cX3_add 38 = .ok (.iastore, 1) := by decide +kernel
theorem dX3_add_39 : decode cX3_add 39 = .ok (.aload_n 0, 1) := by decide +kernel
theorem dX3_add_40 : decode cX3_add 40 = .ok (.getfield 33, 3) := by decide +kernel
theorem dX3_add_43 : decode cX3_add 43 = .ok (.aload_n 0, 1) := by decide +kernel
theorem dX3_add_44 : decode cX3_add 44 = .ok (.getfield 36, 3) := by decide +kernel
theorem dX3_add_47 : decode cX3_add 47 = .ok (.iload 4, 2) := by decide +kernel
theorem dX3_add_49 : decode cX3_add 49 = .ok (.iastore, 1) := by decide +kernel
theorem dX3_add_50 : decode cX3_add 50 = .ok (.aload_n 0, 1) := by decide +kernel
theorem dX3_add_51 : decode cX3_add 51 = .ok (.getfield 21, 3) := by decide +kernel
theorem dX3_add_54 : decode cX3_add 54 = .ok (.aload_n 0, 1) := by decide +kernel
theorem dX3_add_55 : decode cX3_add 55 = .ok (.getfield 36, 3) := by decide +kernel
theorem dX3_add_58 : decode cX3_add 58 = .ok (.iconst 0, 1) := by decide +kernel
theorem dX3_add_59 : decode cX3_add 59 = .ok (.iastore, 1) := by decide +kernel
theorem dX3_add_60 : decode cX3_add 60 = .ok (.aload_n 0, 1) := by decide +kernel
theorem dX3_add_61 : decode cX3_add 61 = .ok (.getfield 24, 3) := by decide +kernel
theorem dX3_add_64 : decode cX3_add 64 = .ok (.aload_n 0, 1) := by decide +kernel
theorem dX3_add_65 : decode cX3_add 65 = .ok (.getfield 36, 3) := by decide +kernel
theorem dX3_add_68 : decode cX3_add 68 = .ok (.iconst 0, 1) := by decide +kernel
theorem dX3_add_69 : decode cX3_add 69 = .ok (.iastore, 1) := by decide +kernel
theorem dX3_add_70 : decode cX3_add 70 = .ok (.aload_n 0, 1) := by decide +kernel
theorem dX3_add_71 : decode cX3_add 71 = .ok (.dup, 1) := by decide +kernel
theorem dX3_add_72 : decode cX3_add 72 = .ok (.getfield 36, 3) := by decide +kernel
theorem dX3_add_75 : decode cX3_add 75 = .ok (.iconst 1, 1) := by decide +kernel
theorem dX3_add_76 : decode cX3_add 76 = .ok (.iadd, 1) := by decide +kernel
theorem dX3_add_77 : decode cX3_add 77 = .ok (.putfield 36, 3) := by decide +kernel
theorem dX3_add_80 : decode cX3_add 80 = .ok (.return_, 1) := by decide +kernel
theorem dX3_addPieces_0 : decode cX3_addPieces 0 = .ok (.iconst (-1), 1) := by decide +kernel
theorem dX3_addPieces_1 : decode cX3_addPieces 1 = .ok (.istore_n 3, 1) := by decide +kernel
theorem dX3_addPieces_2 : decode cX3_addPieces 2 = .ok (.iconst 0, 1) := by decide +kernel
theorem dX3_addPieces_3 : decode cX3_addPieces 3 = .ok (.istore 4, 2) := by decide +kernel
theorem dX3_addPieces_5 : decode cX3_addPieces 5 = .ok (.iload 4, 2) := by decide +kernel
theorem dX3_addPieces_7 : decode cX3_addPieces 7 = .ok (.bipush 8, 2) := by decide +kernel
theorem dX3_addPieces_9 : decode cX3_addPieces 9 = .ok (.if_icmp .ge 42, 3) := by decide +kernel
theorem dX3_addPieces_12 : decode cX3_addPieces 12 = .ok (.iload_n 2, 1) := by decide +kernel
theorem dX3_addPieces_13 : decode cX3_addPieces 13 = .ok (.iconst 1, 1) := by decide +kernel
theorem dX3_addPieces_14 : decode cX3_addPieces 14 = .ok (.iload 4, 2) := by decide +kernel
theorem dX3_addPieces_16 : decode cX3_addPieces 16 = .ok (.ishl, 1) := by decide +kernel
theorem dX3_addPieces_17 : decode cX3_addPieces 17 = .ok (.iand, 1) := by decide +kernel
theorem dX3_addPieces_18 : decode cX3_addPieces 18 = .ok (.ifCond .eq 27, 3) := by decide +kernel
theorem dX3_addPieces_21 : decode cX3_addPieces 21 = .ok (.iload_n 3, 1) := by decide +kernel
theorem dX3_addPieces_22 : decode cX3_addPieces 22 = .ok (.iconst (-1), 1) := by decide +kernel
theorem dX3_addPieces_23 : decode cX3_addPieces 23 = .ok (.if_icmp .eq 19, 3) := by decide +kernel
theorem dX3_addPieces_26 : decode cX3_addPieces 26 = .ok (.aload_n 0, 1) := by decide +kernel
theorem dX3_addPieces_27 : decode cX3_addPieces 27 = .ok (.iload_n 1, 1) := by decide +kernel
theorem dX3_addPieces_28 : decode cX3_addPieces 28 = .ok (.iload_n 3, 1) := by decide +kernel
theorem dX3_addPieces_29 : decode cX3_addPieces 29 = .ok (.iload 4, 2) := by decide +kernel
theorem dX3_addPieces_31 : decode cX3_addPieces 31 = .ok (.iconst 1, 1) := by decide +kernel
theorem dX3_addPieces_32 : decode cX3_addPieces 32 = .ok (.iload_n 3, 1) := by decide +kernel
theorem dX3_addPieces_33 : decode cX3_addPieces 33 = .ok (.ishl, 1) := by decide +kernel
theorem dX3_addPieces_34 : decode cX3_addPieces 34 = .ok (.iconst 1, 1) := by decide +kernel
theorem dX3_addPieces_35 : decode cX3_addPieces 35 = .ok (.iload 4, 2) := by decide +kernel
theorem dX3_addPieces_37 : decode cX3_addPieces 37 = .ok (.ishl, 1) := by decide +kernel
theorem dX3_addPieces_38 : decode cX3_addPieces 38 = .ok (.ior, 1) := by decide +kernel
theorem dX3_addPieces_39 : decode cX3_addPieces 39 = .ok (.invokevirtual 61, 3) := by decide +kernel
theorem dX3_addPieces_42 : decode cX3_addPieces 42 = .ok (.iload 4, 2) := by decide +kernel
theorem dX3_addPieces_44 : decode cX3_addPieces 44 = .ok (.istore_n 3, 1) := by decide +kernel
theorem dX3_addPieces_45 : decode cX3_addPieces 45 = .ok (.iinc 4 1, 3) := by decide +kernel
theorem dX3_addPieces_48 : decode cX3_addPieces 48 = .ok (.goto (-43), 3) := by decide +kernel
theorem dX3_addPieces_51 : decode cX3_addPieces 51 = .ok (.return_, 1) := by decide +kernel
theorem dX6_lowest_0 : decode cX6_lowest 0 = .ok (.iconst 0, 1) := by decide +kernel
theorem dX6_lowest_1 : decode cX6_lowest 1 = .ok (.istore_n 1, 1) := by decide +kernel
theorem dX6_lowest_2 : decode cX6_lowest 2 = .ok (.iload_n 1, 1) := by decide +kernel
theorem dX6_lowest_3 : decode cX6_lowest 3 = .ok (.bipush 31, 2) := by decide +kernel
theorem dX6_lowest_5 : decode cX6_lowest 5 = .ok (.if_icmp .ge 19, 3) := by decide +kernel
theorem dX6_lowest_8 : decode cX6_lowest 8 = .ok (.iload_n 0, 1) := by decide +kernel
theorem dX6_lowest_9 : decode cX6_lowest 9 = .ok (.iconst 1, 1) := by decide +kernel
theorem dX6_lowest_10 : decode cX6_lowest 10 = .ok (.iload_n 1, 1) := by decide +kernel
theorem dX6_lowest_11 : decode cX6_lowest 11 = .ok (.ishl, 1) := by decide +kernel
theorem dX6_lowest_12 : decode cX6_lowest 12 = .ok (.iand, 1) := by decide +kernel
theorem dX6_lowest_13 : decode cX6_lowest 13 = .ok (.ifCond .eq 5, 3) := by decide +kernel
theorem dX6_lowest_16 : decode cX6_lowest 16 = .ok (.iload_n 1, 1) := by decide +kernel
theorem dX6_lowest_17 : decode cX6_lowest 17 = .ok (.ireturn, 1) := by decide +kernel
theorem dX6_lowest_18 : decode cX6_lowest 18 = .ok (.iinc 1 1, 3) := by decide +kernel
theorem dX6_lowest_21 : decode cX6_lowest 21 = .ok (.goto (-19), 3) := by decide +kernel
theorem dX6_lowest_24 : decode cX6_lowest 24 = .ok (.iconst (-1), 1) := by decide +kernel
theorem dX6_lowest_25 : decode cX6_lowest 25 = .ok (.ireturn, 1) := by decide +kernel
theorem dX6_highest_0 : decode cX6_highest 0 = .ok (.bipush 30, 2) := by decide +kernel
theorem dX6_highest_2 : decode cX6_highest 2 = .ok (.istore_n 1, 1) := by decide +kernel
theorem dX6_highest_3 : decode cX6_highest 3 = .ok (.iload_n 1, 1) := by decide +kernel
theorem dX6_highest_4 : decode cX6_highest 4 = .ok (.ifCond .lt 19, 3) := by decide +kernel
theorem dX6_highest_7 : decode cX6_highest 7 = .ok (.iload_n 0, 1) := by decide +kernel
theorem dX6_highest_8 : decode cX6_highest 8 = .ok (.iconst 1, 1) := by decide +kernel
theorem dX6_highest_9 : decode cX6_highest 9 = .ok (.iload_n 1, 1) := by decide +kernel
theorem dX6_highest_10 : decode cX6_highest 10 = .ok (.ishl, 1) := by decide +kernel
theorem dX6_highest_11 : decode cX6_highest 11 = .ok (.iand, 1) := by decide +kernel
theorem dX6_highest_12 : decode cX6_highest 12 = .ok (.ifCond .eq 5, 3) := by decide +kernel
theorem dX6_highest_15 : decode cX6_highest 15 = .ok (.iload_n 1, 1) := by decide +kernel
theorem dX6_highest_16 : decode cX6_highest 16 = .ok (.ireturn, 1) := by decide +kernel
theorem dX6_highest_17 : decode cX6_highest 17 = .ok (.iinc 1 (-1), 3) := by decide +kernel
theorem dX6_highest_20 : decode cX6_highest 20 = .ok (.goto (-17), 3) := by decide +kernel
theorem dX6_highest_23 : decode cX6_highest 23 = .ok (.iconst (-1), 1) := by decide +kernel
theorem dX6_highest_24 : decode cX6_highest 24 = .ok (.ireturn, 1) := by decide +kernel
theorem dX3_constrain_0 : decode cX3_constrain 0 = .ok (.iload_n 2, 1) := by decide +kernel
theorem dX3_constrain_1 : decode cX3_constrain 1 = .ok (.iload_n 3, 1) := by decide +kernel
theorem dX3_constrain_2 : decode cX3_constrain 2 = .ok (.if_icmp .ne 4, 3) := by decide +kernel
theorem dX3_constrain_5 : decode cX3_constrain 5 = .ok (.return_, 1) := by decide +kernel
theorem dX3_constrain_6 : decode cX3_constrain 6 = .ok (.iconst 0, 1) := by decide +kernel
theorem dX3_constrain_7 : decode cX3_constrain 7 = .ok (.istore 4, 2) := by decide +kernel
theorem dX3_constrain_9 : decode cX3_constrain 9 = .ok (.iload 4, 2) := by decide +kernel
theorem dX3_constrain_11 : decode cX3_constrain 11 = .ok (.aload_n 0, 1) := by decide +kernel
theorem dX3_constrain_12 : decode cX3_constrain 12 = .ok (.getfield 36, 3) := by decide +kernel
theorem dX3_constrain_15 : decode cX3_constrain 15 = .ok (.if_icmp .ge 81, 3) := by decide +kernel
theorem dX3_constrain_18 : decode cX3_constrain 18 = .ok (.aload_n 0, 1) := by decide +kernel
theorem dX3_constrain_19 : decode cX3_constrain 19 = .ok (.iload 4, 2) := by decide +kernel
theorem dX3_constrain_21 : decode cX3_constrain 21 = .ok (.iload_n 2, 1) := by decide +kernel
theorem dX3_constrain_22 : decode cX3_constrain 22 = .ok (.iload_n 1, 1) := by decide +kernel
theorem dX3_constrain_23 : decode cX3_constrain 23 = .ok (.invokevirtual 83, 3) := by decide +kernel
theorem dX3_constrain_26 : decode cX3_constrain 26 = .ok (.istore 5, 2) := by decide +kernel
theorem dX3_constrain_28 : decode cX3_constrain 28 = .ok (.iconst 0, 1) := by decide +kernel
theorem dX3_constrain_29 : decode cX3_constrain 29 = .ok (.istore 6, 2) := by decide +kernel
theorem dX3_constrain_31 : decode cX3_constrain 31 = .ok (.iload 5, 2) := by decide +kernel
theorem dX3_constrain_33 : decode cX3_constrain 33 = .ok (.ifCond .eq 57, 3) := by decide +kernel
theorem dX3_constrain_36 : decode cX3_constrain 36 = .ok (.iload 6, 2) := by decide +kernel
theorem dX3_constrain_38 : decode cX3_constrain 38 = .ok (.aload_n 0, 1) := by decide +kernel
theorem dX3_constrain_39 : decode cX3_constrain 39 = .ok (.getfield 36, 3) := by decide +kernel
theorem dX3_constrain_42 : decode cX3_constrain 42 = .ok (.if_icmp .ge 48, 3) := by decide +kernel
theorem dX3_constrain_45 : decode cX3_constrain 45 = .ok (.aload_n 0, 1) := by decide +kernel
theorem dX3_constrain_46 : decode cX3_constrain 46 = .ok (.iload 6, 2) := by decide +kernel
theorem dX3_constrain_48 : decode cX3_constrain 48 = .ok (.iload_n 3, 1) := by decide +kernel
theorem dX3_constrain_49 : decode cX3_constrain 49 = .ok (.iload_n 1, 1) := by decide +kernel
theorem dX3_constrain_50 : decode cX3_constrain 50 = .ok (.invokevirtual 83, 3) := by decide +kernel
theorem dX3_constrain_53 : decode cX3_constrain 53 = .ok (.ifCond .eq 31, 3) := by decide +kernel
theorem dX3_constrain_56 : decode cX3_constrain 56 = .ok (.aload_n 0, 1) := by decide +kernel
theorem dX3_constrain_57 : decode cX3_constrain 57 = .ok (.getfield 21, 3) := by decide +kernel
theorem dX3_constrain_60 : decode cX3_constrain 60 = .ok (.iload 4, 2) := by decide +kernel
theorem dX3_constrain_62 : decode cX3_constrain 62 = .ok (.dup2, 1) := by decide +kernel
theorem dX3_constrain_63 : decode cX3_constrain 63 = .ok (.iaload, 1) := by decide +kernel
theorem dX3_constrain_64 : decode cX3_constrain 64 = .ok (.iconst 1, 1) := by decide +kernel
theorem dX3_constrain_65 : decode cX3_constrain 65 = .ok (.iload 6, 2) := by decide +kernel
theorem dX3_constrain_67 : decode cX3_constrain 67 = .ok (.ishl, 1) := by decide +kernel
theorem dX3_constrain_68 : decode cX3_constrain 68 = .ok (.ior, 1) := by decide +kernel
theorem dX3_constrain_69 : decode cX3_constrain 69 = .ok (.iastore, 1) := by decide +kernel
theorem dX3_constrain_70 : decode cX3_constrain 70 = .ok (.aload_n 0, 1) := by decide +kernel
theorem dX3_constrain_71 : decode cX3_constrain 71 = .ok (.getfield 24, 3) := by decide +kernel
theorem dX3_constrain_74 : decode cX3_constrain 74 = .ok (.iload 6, 2) := by decide +kernel
theorem dX3_constrain_76 : decode cX3_constrain 76 = .ok (.dup2, 1) := by decide +kernel
theorem dX3_constrain_77 : decode cX3_constrain 77 = .ok (.iaload, 1) := by decide +kernel
theorem dX3_constrain_78 : decode cX3_constrain 78 = .ok (.iconst 1, 1) := by decide +kernel
theorem dX3_constrain_79 : decode cX3_constrain 79 = .ok (.iload 4, 2) := by decide +kernel
theorem dX3_constrain_81 : decode cX3_constrain 81 = .ok (.ishl, 1) := by decide +kernel
theorem dX3_constrain_82 : decode cX3_constrain 82 = .ok (.ior, 1) := by decide +kernel
theorem dX3_constrain_83 : decode cX3_constrain 83 = .ok (.iastore, 1) := by decide +kernel
theorem dX3_constrain_84 : decode cX3_constrain 84 = .ok (.iinc 6 1, 3) := by decide +kernel
theorem dX3_constrain_87 : decode cX3_constrain 87 = .ok (.goto (-56), 3) := by decide +kernel
theorem dX3_constrain_90 : decode cX3_constrain 90 = .ok (.iinc 4 1, 3) := by decide +kernel
theorem dX3_constrain_93 : decode cX3_constrain 93 = .ok (.goto (-84), 3) := by decide +kernel
theorem dX3_constrain_96 : decode cX3_constrain 96 = .ok (.return_, 1) := by decide +kernel
theorem dX3_build_0 : decode cX3_build 0 = .ok (.aload_n 0, 1) := by decide +kernel
theorem dX3_build_1 : decode cX3_build 1 = .ok (.iconst 0, 1) := by decide +kernel
theorem dX3_build_2 : decode cX3_build 2 = .ok (.putfield 36, 3) := by decide +kernel
theorem dX3_build_5 : decode cX3_build 5 = .ok (.iconst 0, 1) := by decide +kernel
theorem dX3_build_6 : decode cX3_build 6 = .ok (.istore_n 3, 1) := by decide +kernel
theorem dX3_build_7 : decode cX3_build 7 = .ok (.iload_n 3, 1) := by decide +kernel
theorem dX3_build_8 : decode cX3_build 8 = .ok (.bipush 6, 2) := by decide +kernel
theorem dX3_build_10 : decode cX3_build 10 = .ok (.if_icmp .ge 60, 3) := by decide +kernel
theorem dX3_build_13 : decode cX3_build 13 = .ok (.aload_n 1, 1) := by decide +kernel
theorem dX3_build_14 : decode cX3_build 14 = .ok (.iload_n 3, 1) := by decide +kernel
theorem dX3_build_15 : decode cX3_build 15 = .ok (.invokevirtual 40, 3) := by decide +kernel
theorem dX3_build_18 : decode cX3_build 18 = .ok (.istore 4, 2) := by decide +kernel
theorem dX3_build_20 : decode cX3_build 20 = .ok (.iload_n 2, 1) := by decide +kernel
theorem dX3_build_21 : decode cX3_build 21 = .ok (.iconst 1, 1) := by decide +kernel
theorem dX3_build_22 : decode cX3_build 22 = .ok (.iload_n 3, 1) := by decide +kernel
theorem dX3_build_23 : decode cX3_build 23 = .ok (.ishl, 1) := by decide +kernel
theorem dX3_build_24 : decode cX3_build 24 = .ok (.iand, 1) := by decide +kernel
theorem dX3_build_25 : decode cX3_build 25 = .ok (.ifCond .eq 13, 3) := by decide +kernel
theorem dX3_build_28 : decode cX3_build 28 = .ok (.aload_n 0, 1) := by decide +kernel
theorem dX3_build_29 : decode cX3_build 29 = .ok (.iload_n 3, 1) := by decide +kernel
theorem dX3_build_30 : decode cX3_build 30 = .ok (.iload 4, 2) := by decide +kernel
theorem dX3_build_32 : decode cX3_build 32 = .ok (.invokevirtual 46, 3) := by decide +kernel
theorem dX3_build_35 : decode cX3_build 35 = .ok (.goto 29, 3) := by decide +kernel
theorem dX3_build_38 : decode cX3_build 38 = .ok (.iload 4, 2) := by decide +kernel
theorem dX3_build_40 : decode cX3_build 40 = .ok (.invokestatic 50, 3) := by decide +kernel
theorem dX3_build_43 : decode cX3_build 43 = .ok (.iconst 1, 1) := by decide +kernel
theorem dX3_build_44 : decode cX3_build 44 = .ok (.if_icmp .le 20, 3) := by decide +kernel
theorem dX3_build_47 : decode cX3_build 47 = .ok (.aload_n 0, 1) := by decide +kernel
theorem dX3_build_48 : decode cX3_build 48 = .ok (.iload_n 3, 1) := by decide +kernel
theorem dX3_build_49 : decode cX3_build 49 = .ok (.iload 4, 2) := by decide +kernel
theorem dX3_build_51 : decode cX3_build 51 = .ok (.invokestatic 55, 3) := by decide +kernel
theorem dX3_build_54 : decode cX3_build 54 = .ok (.iload 4, 2) := by decide +kernel
theorem dX3_build_56 : decode cX3_build 56 = .ok (.invokestatic 58, 3) := by decide +kernel
theorem dX3_build_59 : decode cX3_build 59 = .ok (.iload 4, 2) := by decide +kernel
theorem dX3_build_61 : decode cX3_build 61 = .ok (.invokevirtual 61, 3) := by decide +kernel
theorem dX3_build_64 : decode cX3_build 64 = .ok (.iinc 3 1, 3) := by decide +kernel
theorem dX3_build_67 : decode cX3_build 67 = .ok (.goto (-60), 3) := by decide +kernel
theorem dX3_build_70 : decode cX3_build 70 = .ok (.iconst 0, 1) := by decide +kernel
theorem dX3_build_71 : decode cX3_build 71 = .ok (.istore_n 3, 1) := by decide +kernel
theorem dX3_build_72 : decode cX3_build 72 = .ok (.iload_n 3, 1) := by decide +kernel
theorem dX3_build_73 : decode cX3_build 73 = .ok (.aload_n 1, 1) := by decide +kernel
theorem dX3_build_74 : decode cX3_build 74 = .ok (.getfield 65, 3) := by decide +kernel
theorem dX3_build_77 : decode cX3_build 77 = .ok (.if_icmp .ge 26, 3) := by decide +kernel
theorem dX3_build_80 : decode cX3_build 80 = .ok (.aload_n 0, 1) := by decide +kernel
theorem dX3_build_81 : decode cX3_build 81 = .ok (.iload_n 3, 1) := by decide +kernel
theorem dX3_build_82 : decode cX3_build 82 = .ok (.aload_n 1, 1) := by decide +kernel
theorem dX3_build_83 : decode cX3_build 83 = .ok (.iload_n 3, 1) := by decide +kernel
theorem dX3_build_84 : decode cX3_build 84 = .ok (.iconst 0, 1) := by decide +kernel
theorem dX3_build_85 : decode cX3_build 85 = .ok (.invokevirtual 68, 3) := by decide +kernel
theorem dX3_build_88 : decode cX3_build 88 = .ok (.aload_n 1, 1) := by decide +kernel
theorem dX3_build_89 : decode cX3_build 89 = .ok (.iload_n 3, 1) := by decide +kernel
theorem dX3_build_90 : decode cX3_build 90 = .ok (.iconst 1, 1) := by decide +kernel
theorem dX3_build_91 : decode cX3_build 91 = .ok (.invokevirtual 68, 3) := by decide +kernel
theorem dX3_build_94 : decode cX3_build 94 = .ok (.invokevirtual 72, 3) := by decide +kernel
theorem dX3_build_97 : decode cX3_build 97 = .ok (.iinc 3 1, 3) := by decide +kernel
theorem dX3_build_100 : decode cX3_build 100 = .ok (.goto (-28), 3) := by decide +kernel
theorem dX3_build_103 : decode cX3_build 103 = .ok (.aload_n 0, 1) := by decide +kernel
theorem dX3_build_104 : decode cX3_build 104 = .ok (.aload_n 0, 1) := by decide +kernel
theorem dX3_build_105 : decode cX3_build 105 = .ok (.aload_n 0, 1) := by decide +kernel
theorem dX3_build_106 : decode cX3_build 106 = .ok (.getfield 24, 3) := by decide +kernel
theorem dX3_build_109 : decode cX3_build 109 = .ok (.aload_n 0, 1) := by decide +kernel
theorem dX3_build_110 : decode cX3_build 110 = .ok (.getfield 27, 3) := by decide +kernel
theorem dX3_build_113 : decode cX3_build 113 = .ok (.invokevirtual 76, 3) := by decide +kernel
theorem dX3_build_116 : decode cX3_build 116 = .ok (.putfield 80, 3) := by decide +kernel
theorem dX3_build_119 : decode cX3_build 119 = .ok (.aload_n 0, 1) := by decide +kernel
theorem dX3_build_120 : decode cX3_build 120 = .ok (.aload_n 0, 1) := by decide +kernel
theorem dX3_build_121 : decode cX3_build 121 = .ok (.getfield 21, 3) := by decide +kernel
theorem dX3_build_124 : decode cX3_build 124 = .ok (.aload_n 0, 1) := by decide +kernel
theorem dX3_build_125 : decode cX3_build 125 = .ok (.getfield 30, 3) := by decide +kernel
theorem dX3_build_128 : decode cX3_build 128 = .ok (.invokevirtual 76, 3) := by decide +kernel
theorem dX3_build_131 : decode cX3_build 131 = .ok (.pop, 1) := by decide +kernel
theorem dX3_build_132 : decode cX3_build 132 = .ok (.return_, 1) := by decide +kernel
theorem dX3_numberOf_0 : decode cX3_numberOf 0 = .ok (.iconst 0, 1) := by decide +kernel
theorem dX3_numberOf_1 : decode cX3_numberOf 1 = .ok (.istore_n 2, 1) := by decide +kernel
theorem dX3_numberOf_2 : decode cX3_numberOf 2 = .ok (.iconst 0, 1) := by decide +kernel
theorem dX3_numberOf_3 : decode cX3_numberOf 3 = .ok (.istore_n 3, 1) := by decide +kernel
theorem dX3_numberOf_4 : decode cX3_numberOf 4 = .ok (.iload_n 3, 1) := by decide +kernel
theorem dX3_numberOf_5 : decode cX3_numberOf 5 = .ok (.aload_n 0, 1) := by decide +kernel
theorem dX3_numberOf_6 : decode cX3_numberOf 6 = .ok (.getfield 36, 3) := by decide +kernel
theorem dX3_numberOf_9 : decode cX3_numberOf 9 = .ok (.if_icmp .ge 22, 3) := by decide +kernel
theorem dX3_numberOf_12 : decode cX3_numberOf 12 = .ok (.aload_n 0, 1) := by decide +kernel
theorem dX3_numberOf_13 : decode cX3_numberOf 13 = .ok (.getfield 9, 3) := by decide +kernel
theorem dX3_numberOf_16 : decode cX3_numberOf 16 = .ok (.iload_n 3, 1) := by decide +kernel
theorem dX3_numberOf_17 : decode cX3_numberOf 17 = .ok (.iaload, 1) := by decide +kernel
theorem dX3_numberOf_18 : decode cX3_numberOf 18 = .ok (.iload_n 1, 1) := by decide +kernel
theorem dX3_numberOf_19 : decode cX3_numberOf 19 = .ok (.if_icmp .ne 6, 3) := by decide +kernel
theorem dX3_numberOf_22 : decode cX3_numberOf 22 = .ok (.iinc 2 1, 3) := by decide +kernel
theorem dX3_numberOf_25 : decode cX3_numberOf 25 = .ok (.iinc 3 1, 3) := by decide +kernel
theorem dX3_numberOf_28 : decode cX3_numberOf 28 = .ok (.goto (-24), 3) := by decide +kernel
theorem dX3_numberOf_31 : decode cX3_numberOf 31 = .ok (.iload_n 2, 1) := by decide +kernel
theorem dX3_numberOf_32 : decode cX3_numberOf 32 = .ok (.ireturn, 1) := by decide +kernel
theorem dX4_append_0 : decode cX4_append 0 = .ok (.aload_n 0, 1) := by decide +kernel
theorem dX4_append_1 : decode cX4_append 1 = .ok (.getfield 15, 3) := by decide +kernel
theorem dX4_append_4 : decode cX4_append 4 = .ok (.bipush 20, 2) := by decide +kernel
theorem dX4_append_6 : decode cX4_append 6 = .ok (.if_icmp .ge 23, 3) := by decide +kernel
theorem dX4_append_9 : decode cX4_append 9 = .ok (.aload_n 0, 1) := by decide +kernel
theorem dX4_append_10 : decode cX4_append 10 = .ok (.getfield 9, 3) := by decide +kernel
theorem dX4_append_13 : decode cX4_append 13 = .ok (.aload_n 0, 1) := by decide +kernel
theorem dX4_append_14 : decode cX4_append 14 = .ok (.getfield 15, 3) := by decide +kernel
theorem dX4_append_17 : decode cX4_append 17 = .ok (.iload_n 1, 1) := by decide +kernel
theorem dX4_append_18 : decode cX4_append 18 = .ok (.iastore, 1) := by decide +kernel
theorem dX4_append_19 : decode cX4_append 19 = .ok (.aload_n 0, 1) := by decide +kernel
theorem dX4_append_20 : decode cX4_append 20 = .ok (.dup, 1) := by decide +kernel
theorem dX4_append_21 : decode cX4_append 21 = .ok (.getfield 15, 3) := by decide +kernel
theorem dX4_append_24 : decode cX4_append 24 = .ok (.iconst 1, 1) := by decide +kernel
theorem dX4_append_25 : decode cX4_append 25 = .ok (.iadd, 1) := by decide +kernel
theorem dX4_append_26 : decode cX4_append 26 = .ok (.putfield 15, 3) := by decide +kernel
theorem dX4_append_29 : decode cX4_append 29 = .ok (.return_, 1) := by decide +kernel
theorem dX4_lastCode_0 : decode cX4_lastCode 0 = .ok (.aload_n 0, 1) := by decide +kernel
theorem dX4_lastCode_1 : decode cX4_lastCode 1 = .ok (.getfield 15, 3) := by decide +kernel
theorem dX4_lastCode_4 : decode cX4_lastCode 4 = .ok (.ifCond .le 17, 3) := by decide +kernel
theorem dX4_lastCode_7 : decode cX4_lastCode 7 = .ok (.aload_n 0, 1) := by decide +kernel
theorem dX4_lastCode_8 : decode cX4_lastCode 8 = .ok (.getfield 9, 3) := by decide +kernel
theorem dX4_lastCode_11 : decode cX4_lastCode 11 = .ok (.aload_n 0, 1) := by decide +kernel
theorem dX4_lastCode_12 : decode cX4_lastCode 12 = .ok (.getfield 15, 3) := by decide +kernel
theorem dX4_lastCode_15 : decode cX4_lastCode 15 = .ok (.iconst 1, 1) := by decide +kernel
theorem dX4_lastCode_16 : decode cX4_lastCode 16 = .ok (.isub, 1) := by decide +kernel
theorem dX4_lastCode_17 : decode cX4_lastCode 17 = .ok (.iaload, 1) := by decide +kernel
theorem dX4_lastCode_18 : decode cX4_lastCode 18 = .ok (.goto 4, 3) := by decide +kernel
theorem dX4_lastCode_21 : decode cX4_lastCode 21 = .ok (.iconst (-1), 1) := by decide +kernel
theorem dX4_lastCode_22 : decode cX4_lastCode 22 = .ok (.ireturn, 1) := by decide +kernel
theorem dX4_netAt_0 : decode cX4_netAt 0 = .ok (.iload_n 1, 1) := by decide +kernel
theorem dX4_netAt_1 : decode cX4_netAt 1 = .ok (.ifCond .lt 22, 3) := by decide +kernel
theorem dX4_netAt_4 : decode cX4_netAt 4 = .ok (.iload_n 1, 1) := by decide +kernel
theorem dX4_netAt_5 : decode cX4_netAt 5 = .ok (.aload_n 0, 1) := by decide +kernel
theorem dX4_netAt_6 : decode cX4_netAt 6 = .ok (.getfield 15, 3) := by decide +kernel
theorem dX4_netAt_9 : decode cX4_netAt 9 = .ok (.if_icmp .ge 14, 3) := by decide +kernel
theorem dX4_netAt_12 : decode cX4_netAt 12 = .ok (.aload_n 0, 1) := by decide +kernel
theorem dX4_netAt_13 : decode cX4_netAt 13 = .ok (.getfield 9, 3) := by decide +kernel
theorem dX4_netAt_16 : decode cX4_netAt 16 = .ok (.iload_n 1, 1) := by decide +kernel
theorem dX4_netAt_17 : decode cX4_netAt 17 = .ok (.iaload, 1) := by decide +kernel
theorem dX4_netAt_18 : decode cX4_netAt 18 = .ok (.bipush 46, 2) := by decide +kernel
theorem dX4_netAt_20 : decode cX4_netAt 20 = .ok (.if_icmp .ne 5, 3) := by decide +kernel
theorem dX4_netAt_23 : decode cX4_netAt 23 = .ok (.iconst (-1), 1) := by decide +kernel
theorem dX4_netAt_24 : decode cX4_netAt 24 = .ok (.ireturn, 1) := by decide +kernel
theorem dX4_netAt_25 : decode cX4_netAt 25 = .ok (.aload_n 0, 1) := by decide +kernel
theorem dX4_netAt_26 : decode cX4_netAt 26 = .ok (.getfield 9, 3) := by decide +kernel
theorem dX4_netAt_29 : decode cX4_netAt 29 = .ok (.iload_n 1, 1) := by decide +kernel
theorem dX4_netAt_30 : decode cX4_netAt 30 = .ok (.iaload, 1) := by decide +kernel
theorem dX4_netAt_31 : decode cX4_netAt 31 = .ok (.bipush 97, 2) := by decide +kernel
theorem dX4_netAt_33 : decode cX4_netAt 33 = .ok (.isub, 1) := by decide +kernel
theorem dX4_netAt_34 : decode cX4_netAt 34 = .ok (.ireturn, 1) := by decide +kernel
theorem dX4_isNetSign_0 : decode cX4_isNetSign 0 = .ok (.iload_n 0, 1) := by decide +kernel
theorem dX4_isNetSign_1 : decode cX4_isNetSign 1 = .ok (.bipush 97, 2) := by decide +kernel
theorem dX4_isNetSign_3 : decode cX4_isNetSign 3 = .ok (.if_icmp .lt 13, 3) := by decide +kernel
theorem dX4_isNetSign_6 : decode cX4_isNetSign 6 = .ok (.iload_n 0, 1) := by decide +kernel
theorem dX4_isNetSign_7 : decode cX4_isNetSign 7 = .ok (.bipush 103, 2) := by decide +kernel
theorem dX4_isNetSign_9 : decode cX4_isNetSign 9 = .ok (.if_icmp .ge 7, 3) := by decide +kernel
theorem dX4_isNetSign_12 : decode cX4_isNetSign 12 = .ok (.iconst 1, 1) := by decide +kernel
theorem dX4_isNetSign_13 : decode cX4_isNetSign 13 = .ok (.goto 4, 3) := by decide +kernel
theorem dX4_isNetSign_16 : decode cX4_isNetSign 16 = .ok (.iconst 0, 1) := by decide +kernel
theorem dX4_isNetSign_17 : decode cX4_isNetSign 17 = .ok (.ireturn, 1) := by decide +kernel
theorem dX4_isPinSign_0 : decode cX4_isPinSign 0 = .ok (.iload_n 0, 1) := by decide +kernel
theorem dX4_isPinSign_1 : decode cX4_isPinSign 1 = .ok (.bipush 46, 2) := by decide +kernel
theorem dX4_isPinSign_3 : decode cX4_isPinSign 3 = .ok (.if_icmp .eq 10, 3) := by decide +kernel
theorem dX4_isPinSign_6 : decode cX4_isPinSign 6 = .ok (.iload_n 0, 1) := by decide +kernel
theorem dX4_isPinSign_7 : decode cX4_isPinSign 7 = .ok (.invokestatic 27, 3) := by decide +kernel
theorem dX4_isPinSign_10 : decode cX4_isPinSign 10 = .ok (.ifCond .eq 7, 3) := by decide +kernel
theorem dX4_isPinSign_13 : decode cX4_isPinSign 13 = .ok (.iconst 1, 1) := by decide +kernel
theorem dX4_isPinSign_14 : decode cX4_isPinSign 14 = .ok (.goto 4, 3) := by decide +kernel
theorem dX4_isPinSign_17 : decode cX4_isPinSign 17 = .ok (.iconst 0, 1) := by decide +kernel
theorem dX4_isPinSign_18 : decode cX4_isPinSign 18 = .ok (.ireturn, 1) := by decide +kernel
theorem dX4_fitsChannel_0 : decode cX4_fitsChannel 0 = .ok (.aload_n 0, 1) := by decide +kernel
theorem dX4_fitsChannel_1 : decode cX4_fitsChannel 1 = .ok (.getfield 9, 3) := by decide +kernel
theorem dX4_fitsChannel_4 : decode cX4_fitsChannel 4 = .ok (.iload_n 1, 1) := by decide +kernel
theorem dX4_fitsChannel_5 : decode cX4_fitsChannel 5 = .ok (.iaload, 1) := by decide +kernel
theorem dX4_fitsChannel_6 : decode cX4_fitsChannel 6 = .ok (.istore_n 3, 1) := by decide +kernel
theorem dX4_fitsChannel_7 : decode cX4_fitsChannel 7 = .ok (.iload_n 2, 1) := by decide +kernel
theorem dX4_fitsChannel_8 : decode cX4_fitsChannel 8 = .ok (.iconst (-1), 1) := by decide +kernel
theorem dX4_fitsChannel_9 : decode cX4_fitsChannel 9 = .ok (.if_icmp .eq 23, 3) := by decide +kernel
theorem dX4_fitsChannel_12 : decode cX4_fitsChannel 12 = .ok (.iload_n 1, 1) := by decide +kernel
theorem dX4_fitsChannel_13 : decode cX4_fitsChannel 13 = .ok (.iconst 2, 1) := by decide +kernel
theorem dX4_fitsChannel_14 : decode cX4_fitsChannel 14 = .ok (.iload_n 2, 1) := by decide +kernel
theorem dX4_fitsChannel_15 : decode cX4_fitsChannel 15 = .ok (.imul, 1) := by decide +kernel
theorem dX4_fitsChannel_16 : decode cX4_fitsChannel 16 = .ok (.if_icmp .gt 14, 3) := by decide +kernel
theorem dX4_fitsChannel_19 : decode cX4_fitsChannel 19 = .ok (.iload_n 3, 1) := by decide +kernel
theorem dX4_fitsChannel_20 : decode cX4_fitsChannel 20 = .ok (.invokestatic 23, 3) := by decide +kernel
theorem dX4_fitsChannel_23 : decode cX4_fitsChannel 23 = .ok (.ifCond .eq 7, 3) := by decide +kernel
theorem dX4_fitsChannel_26 : decode cX4_fitsChannel 26 = .ok (.iconst 1, 1) := by decide +kernel
theorem dX4_fitsChannel_27 : decode cX4_fitsChannel 27 = .ok (.goto 4, 3) := by decide +kernel
theorem dX4_fitsChannel_30 : decode cX4_fitsChannel 30 = .ok (.iconst 0, 1) := by decide +kernel
theorem dX4_fitsChannel_31 : decode cX4_fitsChannel 31 = .ok (.ireturn, 1) := by decide +kernel
theorem dX4_fitsChannel_32 : decode cX4_fitsChannel 32 = .ok (.iload_n 3, 1) := by decide +kernel
theorem dX4_fitsChannel_33 : decode cX4_fitsChannel 33 = .ok (.bipush 47, 2) := by decide +kernel
theorem dX4_fitsChannel_35 : decode cX4_fitsChannel 35 = .ok (.if_icmp .ne 14, 3) := by decide +kernel
theorem dX4_fitsChannel_38 : decode cX4_fitsChannel 38 = .ok (.iload_n 1, 1) := by decide +kernel
theorem dX4_fitsChannel_39 : decode cX4_fitsChannel 39 = .ok (.iconst 2, 1) := by decide +kernel
theorem dX4_fitsChannel_40 : decode cX4_fitsChannel 40 = .ok (.if_icmp .lt 7, 3) := by decide +kernel
theorem dX4_fitsChannel_43 : decode cX4_fitsChannel 43 = .ok (.iconst 1, 1) := by decide +kernel
theorem dX4_fitsChannel_44 : decode cX4_fitsChannel 44 = .ok (.goto 4, 3) := by decide +kernel
theorem dX4_fitsChannel_47 : decode cX4_fitsChannel 47 = .ok (.iconst 0, 1) := by decide +kernel
theorem dX4_fitsChannel_48 : decode cX4_fitsChannel 48 = .ok (.ireturn, 1) := by decide +kernel
theorem dX4_fitsChannel_49 : decode cX4_fitsChannel 49 = .ok (.iload_n 1, 1) := by decide +kernel
theorem dX4_fitsChannel_50 : decode cX4_fitsChannel 50 = .ok (.bipush 8, 2) := by decide +kernel
theorem dX4_fitsChannel_52 : decode cX4_fitsChannel 52 = .ok (.if_icmp .ge 14, 3) := by decide +kernel
theorem dX4_fitsChannel_55 : decode cX4_fitsChannel 55 = .ok (.iload_n 3, 1) := by decide +kernel
theorem dX4_fitsChannel_56 : decode cX4_fitsChannel 56 = .ok (.invokestatic 23, 3) := by decide +kernel
theorem dX4_fitsChannel_59 : decode cX4_fitsChannel 59 = .ok (.ifCond .eq 7, 3) := by decide +kernel
theorem dX4_fitsChannel_62 : decode cX4_fitsChannel 62 = .ok (.iconst 1, 1) := by decide +kernel
theorem dX4_fitsChannel_63 : decode cX4_fitsChannel 63 = .ok (.goto 4, 3) := by decide +kernel
theorem dX4_fitsChannel_66 : decode cX4_fitsChannel 66 = .ok (.iconst 0, 1) := by decide +kernel
theorem dX4_fitsChannel_67 : decode cX4_fitsChannel 67 = .ok (.ireturn, 1) := by decide +kernel
theorem dX4_channelFault_0 : decode cX4_channelFault 0 = .ok (.iconst (-1), 1) := by decide +kernel
theorem dX4_channelFault_1 : decode cX4_channelFault 1 = .ok (.istore_n 1, 1) := by decide +kernel
theorem dX4_channelFault_2 : decode cX4_channelFault 2 = .ok (.iconst 0, 1) := by decide +kernel
theorem dX4_channelFault_3 : decode cX4_channelFault 3 = .ok (.istore_n 2, 1) := by decide +kernel
theorem dX4_channelFault_4 : decode cX4_channelFault 4 = .ok (.iload_n 2, 1) := by decide +kernel
theorem dX4_channelFault_5 : decode cX4_channelFault 5 = .ok (.aload_n 0, 1) := by decide +kernel
theorem dX4_channelFault_6 : decode cX4_channelFault 6 = .ok (.getfield 15, 3) := by decide +kernel
theorem dX4_channelFault_9 : decode cX4_channelFault 9 = .ok (.if_icmp .ge 33, 3) := by decide +kernel
theorem dX4_channelFault_12 : decode cX4_channelFault 12 = .ok (.aload_n 0, 1) := by decide +kernel
theorem dX4_channelFault_13 : decode cX4_channelFault 13 = .ok (.iload_n 2, 1) := by decide +kernel
theorem dX4_channelFault_14 : decode cX4_channelFault 14 = .ok (.iload_n 1, 1) := by decide +kernel
theorem dX4_channelFault_15 : decode cX4_channelFault 15 = .ok (.invokevirtual 19, 3) := by decide +kernel
theorem dX4_channelFault_18 : decode cX4_channelFault 18 = .ok (.ifCond .ne 5, 3) := by decide +kernel
theorem dX4_channelFault_21 : decode cX4_channelFault 21 = .ok (.iload_n 2, 1) := by decide +kernel
theorem dX4_channelFault_22 : decode cX4_channelFault 22 = .ok (.ireturn, 1) := by decide +kernel
theorem dX4_channelFault_23 : decode cX4_channelFault 23 = .ok (.aload_n 0, 1) := by decide +kernel
theorem dX4_channelFault_24 : decode cX4_channelFault 24 = .ok (.getfield 9, 3) := by decide +kernel
theorem dX4_channelFault_27 : decode cX4_channelFault 27 = .ok (.iload_n 2, 1) := by decide +kernel
theorem dX4_channelFault_28 : decode cX4_channelFault 28 = .ok (.iaload, 1) := by decide +kernel
theorem dX4_channelFault_29 : decode cX4_channelFault 29 = .ok (.bipush 47, 2) := by decide +kernel
theorem dX4_channelFault_31 : decode cX4_channelFault 31 = .ok (.if_icmp .ne 5, 3) := by decide +kernel
theorem dX4_channelFault_34 : decode cX4_channelFault 34 = .ok (.iload_n 2, 1) := by decide +kernel
theorem dX4_channelFault_35 : decode cX4_channelFault 35 = .ok (.istore_n 1, 1) := by decide +kernel
theorem dX4_channelFault_36 : decode cX4_channelFault 36 = .ok (.iinc 2 1, 3) := by decide +kernel
theorem dX4_channelFault_39 : decode cX4_channelFault 39 = .ok (.goto (-35), 3) := by decide +kernel
theorem dX4_channelFault_42 : decode cX4_channelFault 42 = .ok (.aload_n 0, 1) := by decide +kernel
theorem dX4_channelFault_43 : decode cX4_channelFault 43 = .ok (.getfield 15, 3) := by decide +kernel
theorem dX4_channelFault_46 : decode cX4_channelFault 46 = .ok (.ireturn, 1) := by decide +kernel
theorem dX4_columnsOfChannel_0 : decode cX4_columnsOfChannel 0 = .ok (.aload_n 0, 1) := by decide +kernel
theorem dX4_columnsOfChannel_1 : decode cX4_columnsOfChannel 1 = .ok (.getfield 15, 3) := by decide +kernel
theorem dX4_columnsOfChannel_4 : decode cX4_columnsOfChannel 4 = .ok (.iconst 2, 1) := by decide +kernel
theorem dX4_columnsOfChannel_5 : decode cX4_columnsOfChannel 5 = .ok (.idiv, 1) := by decide +kernel
theorem dX4_columnsOfChannel_6 : decode cX4_columnsOfChannel 6 = .ok (.istore_n 1, 1) := by decide +kernel
theorem dX4_columnsOfChannel_7 : decode cX4_columnsOfChannel 7 = .ok (.aload_n 0, 1) := by decide +kernel
theorem dX4_columnsOfChannel_8 : decode cX4_columnsOfChannel 8 = .ok (.getfield 15, 3) := by decide +kernel
theorem dX4_columnsOfChannel_11 : decode cX4_columnsOfChannel 11 = .ok (.iconst 2, 1) := by decide +kernel
theorem dX4_columnsOfChannel_12 : decode cX4_columnsOfChannel 12 = .ok (.iload_n 1, 1) := by decide +kernel
theorem dX4_columnsOfChannel_13 : decode cX4_columnsOfChannel 13 = .ok (.imul, 1) := by decide +kernel
theorem dX4_columnsOfChannel_14 : decode cX4_columnsOfChannel 14 = .ok (.iconst 1, 1) := by decide +kernel
theorem dX4_columnsOfChannel_15 : decode cX4_columnsOfChannel 15 = .ok (.iadd, 1) := by decide +kernel
theorem dX4_columnsOfChannel_16 : decode cX4_columnsOfChannel 16 = .ok (.if_icmp .ne 14, 3) := by decide +kernel
theorem dX4_columnsOfChannel_19 : decode cX4_columnsOfChannel 19 = .ok (.aload_n 0, 1) := by decide +kernel
theorem dX4_columnsOfChannel_20 : decode cX4_columnsOfChannel 20 = .ok (.getfield 9, 3) := by decide +kernel
theorem dX4_columnsOfChannel_23 : decode cX4_columnsOfChannel 23 = .ok (.iload_n 1, 1) := by decide +kernel
theorem dX4_columnsOfChannel_24 : decode cX4_columnsOfChannel 24 = .ok (.iaload, 1) := by decide +kernel
theorem dX4_columnsOfChannel_25 : decode cX4_columnsOfChannel 25 = .ok (.bipush 47, 2) := by decide +kernel
theorem dX4_columnsOfChannel_27 : decode cX4_columnsOfChannel 27 = .ok (.if_icmp .eq 5, 3) := by decide +kernel
theorem dX4_columnsOfChannel_30 : decode cX4_columnsOfChannel 30 = .ok (.iconst (-1), 1) := by decide +kernel
theorem dX4_columnsOfChannel_31 : decode cX4_columnsOfChannel 31 = .ok (.ireturn, 1) := by decide +kernel
theorem dX4_columnsOfChannel_32 : decode cX4_columnsOfChannel 32 = .ok (.aload_n 0, 1) := by decide +kernel
theorem dX4_columnsOfChannel_33 : decode cX4_columnsOfChannel 33 = .ok (.invokevirtual 30, 3) := by decide +kernel
theorem dX4_columnsOfChannel_36 : decode cX4_columnsOfChannel 36 = .ok (.aload_n 0, 1) := by decide +kernel
theorem dX4_columnsOfChannel_37 : decode cX4_columnsOfChannel 37 = .ok (.getfield 15, 3) := by decide +kernel
theorem dX4_columnsOfChannel_40 : decode cX4_columnsOfChannel 40 = .ok (.if_icmp .ne 7, 3) := by decide +kernel
theorem dX4_columnsOfChannel_43 : decode cX4_columnsOfChannel 43 = .ok (.iload_n 1, 1) := by decide +kernel
theorem dX4_columnsOfChannel_44 : decode cX4_columnsOfChannel 44 = .ok (.goto 4, 3) := by decide +kernel
theorem dX4_columnsOfChannel_47 : decode cX4_columnsOfChannel 47 = .ok (.iconst (-1), 1) := by decide +kernel
theorem dX4_columnsOfChannel_48 : decode cX4_columnsOfChannel 48 = .ok (.ireturn, 1) := by decide +kernel
theorem dX4_pattern_0 : decode cX4_pattern 0 = .ok (.iload_n 0, 1) := by decide +kernel
theorem dX4_pattern_1 : decode cX4_pattern 1 = .ok (.tableswitch 54 0 5 #[39, 42, 45, 48, 51, 54], 39) := by decide +kernel
theorem dX4_pattern_40 : decode cX4_pattern 40 = .ok (.ldc 52, 2) := by decide +kernel
theorem dX4_pattern_42 : decode cX4_pattern 42 = .ok (.areturn, 1) := by decide +kernel
theorem dX4_pattern_43 : decode cX4_pattern 43 = .ok (.ldc 54, 2) := by decide +kernel
theorem dX4_pattern_45 : decode cX4_pattern 45 = .ok (.areturn, 1) := by decide +kernel
theorem dX4_pattern_46 : decode cX4_pattern 46 = .ok (.ldc 56, 2) := by decide +kernel
theorem dX4_pattern_48 : decode cX4_pattern 48 = .ok (.areturn, 1) := by decide +kernel
theorem dX4_pattern_49 : decode cX4_pattern 49 = .ok (.ldc 58, 2) := by decide +kernel
theorem dX4_pattern_51 : decode cX4_pattern 51 = .ok (.areturn, 1) := by decide +kernel
theorem dX4_pattern_52 : decode cX4_pattern 52 = .ok (.ldc 60, 2) := by decide +kernel
theorem dX4_pattern_54 : decode cX4_pattern 54 = .ok (.areturn, 1) := by decide +kernel
theorem dX4_pattern_55 : decode cX4_pattern 55 = .ok (.ldc 62, 2) := by decide +kernel
theorem dX4_pattern_57 : decode cX4_pattern 57 = .ok (.areturn, 1) := by decide +kernel
theorem dX4_agrees_0 : decode cX4_agrees 0 = .ok (.iload_n 1, 1) := by decide +kernel
theorem dX4_agrees_1 : decode cX4_agrees 1 = .ok (.bipush 63, 2) := by decide +kernel
theorem dX4_agrees_3 : decode cX4_agrees 3 = .ok (.if_icmp .ne 8, 3) := by decide +kernel
theorem dX4_agrees_6 : decode cX4_agrees 6 = .ok (.iload_n 0, 1) := by decide +kernel
theorem dX4_agrees_7 : decode cX4_agrees 7 = .ok (.invokestatic 27, 3) := by decide +kernel
theorem dX4_agrees_10 : decode cX4_agrees 10 = .ok (.ireturn, 1) := by decide +kernel
theorem dX4_agrees_11 : decode cX4_agrees 11 = .ok (.iload_n 1, 1) := by decide +kernel
theorem dX4_agrees_12 : decode cX4_agrees 12 = .ok (.bipush 35, 2) := by decide +kernel
theorem dX4_agrees_14 : decode cX4_agrees 14 = .ok (.if_icmp .ne 21, 3) := by decide +kernel
theorem dX4_agrees_17 : decode cX4_agrees 17 = .ok (.iload_n 0, 1) := by decide +kernel
theorem dX4_agrees_18 : decode cX4_agrees 18 = .ok (.bipush 48, 2) := by decide +kernel
theorem dX4_agrees_20 : decode cX4_agrees 20 = .ok (.if_icmp .lt 13, 3) := by decide +kernel
theorem dX4_agrees_23 : decode cX4_agrees 23 = .ok (.iload_n 0, 1) := by decide +kernel
theorem dX4_agrees_24 : decode cX4_agrees 24 = .ok (.bipush 57, 2) := by decide +kernel
theorem dX4_agrees_26 : decode cX4_agrees 26 = .ok (.if_icmp .gt 7, 3) := by decide +kernel
theorem dX4_agrees_29 : decode cX4_agrees 29 = .ok (.iconst 1, 1) := by decide +kernel
theorem dX4_agrees_30 : decode cX4_agrees 30 = .ok (.goto 4, 3) := by decide +kernel
theorem dX4_agrees_33 : decode cX4_agrees 33 = .ok (.iconst 0, 1) := by decide +kernel
theorem dX4_agrees_34 : decode cX4_agrees 34 = .ok (.ireturn, 1) := by decide +kernel
theorem dX4_agrees_35 : decode cX4_agrees 35 = .ok (.iload_n 0, 1) := by decide +kernel
theorem dX4_agrees_36 : decode cX4_agrees 36 = .ok (.iload_n 1, 1) := by decide +kernel
theorem dX4_agrees_37 : decode cX4_agrees 37 = .ok (.if_icmp .ne 7, 3) := by decide +kernel
theorem dX4_agrees_40 : decode cX4_agrees 40 = .ok (.iconst 1, 1) := by decide +kernel
theorem dX4_agrees_41 : decode cX4_agrees 41 = .ok (.goto 4, 3) := by decide +kernel
theorem dX4_agrees_44 : decode cX4_agrees 44 = .ok (.iconst 0, 1) := by decide +kernel
theorem dX4_agrees_45 : decode cX4_agrees 45 = .ok (.ireturn, 1) := by decide +kernel
theorem dX4_agreement_0 : decode cX4_agreement 0 = .ok (.aload_n 0, 1) := by decide +kernel
theorem dX4_agreement_1 : decode cX4_agreement 1 = .ok (.getfield 15, 3) := by decide +kernel
theorem dX4_agreement_4 : decode cX4_agreement 4 = .ok (.aload_n 1, 1) := by decide +kernel
theorem dX4_agreement_5 : decode cX4_agreement 5 = .ok (.invokevirtual 48, 3) := by decide +kernel
theorem dX4_agreement_8 : decode cX4_agreement 8 = .ok (.invokestatic 64, 3) := by decide +kernel
theorem dX4_agreement_11 : decode cX4_agreement 11 = .ok (.istore_n 2, 1) := by decide +kernel
theorem dX4_agreement_12 : decode cX4_agreement 12 = .ok (.iconst 0, 1) := by decide +kernel
theorem dX4_agreement_13 : decode cX4_agreement 13 = .ok (.istore_n 3, 1) := by decide +kernel
theorem dX4_agreement_14 : decode cX4_agreement 14 = .ok (.iload_n 3, 1) := by decide +kernel
theorem dX4_agreement_15 : decode cX4_agreement 15 = .ok (.iload_n 2, 1) := by decide +kernel
theorem dX4_agreement_16 : decode cX4_agreement 16 = .ok (.if_icmp .ge 28, 3) := by decide +kernel
theorem dX4_agreement_19 : decode cX4_agreement 19 = .ok (.aload_n 0, 1) := by decide +kernel
theorem dX4_agreement_20 : decode cX4_agreement 20 = .ok (.getfield 9, 3) := by decide +kernel
theorem dX4_agreement_23 : decode cX4_agreement 23 = .ok (.iload_n 3, 1) := by decide +kernel
theorem dX4_agreement_24 : decode cX4_agreement 24 = .ok (.iaload, 1) := by decide +kernel
theorem dX4_agreement_25 : decode cX4_agreement 25 = .ok (.aload_n 1, 1) := by decide +kernel
theorem dX4_agreement_26 : decode cX4_agreement 26 = .ok (.iload_n 3, 1) := by decide +kernel
theorem dX4_agreement_27 : decode cX4_agreement 27 = .ok (.invokevirtual 67, 3) := by decide +kernel
theorem dX4_agreement_30 : decode cX4_agreement 30 = .ok (.invokestatic 71, 3) := by decide +kernel
theorem dX4_agreement_33 : decode cX4_agreement 33 = .ok (.ifCond .ne 5, 3) := by decide +kernel
theorem dX4_agreement_36 : decode cX4_agreement 36 = .ok (.iload_n 3, 1) := by decide +kernel
theorem dX4_agreement_37 : decode cX4_agreement 37 = .ok (.ireturn, 1) := by decide +kernel
theorem dX4_agreement_38 : decode cX4_agreement 38 = .ok (.iinc 3 1, 3) := by decide +kernel
theorem dX4_agreement_41 : decode cX4_agreement 41 = .ok (.goto (-27), 3) := by decide +kernel
theorem dX4_agreement_44 : decode cX4_agreement 44 = .ok (.iload_n 2, 1) := by decide +kernel
theorem dX4_agreement_45 : decode cX4_agreement 45 = .ok (.ireturn, 1) := by decide +kernel
theorem dX4_commandFault_0 : decode cX4_commandFault 0 = .ok (.iconst 0, 1) := by decide +kernel
theorem dX4_commandFault_1 : decode cX4_commandFault 1 = .ok (.istore_n 1, 1) := by decide +kernel
theorem dX4_commandFault_2 : decode cX4_commandFault 2 = .ok (.iconst 0, 1) := by decide +kernel
theorem dX4_commandFault_3 : decode cX4_commandFault 3 = .ok (.istore_n 2, 1) := by decide +kernel
theorem dX4_commandFault_4 : decode cX4_commandFault 4 = .ok (.iload_n 2, 1) := by decide +kernel
theorem dX4_commandFault_5 : decode cX4_commandFault 5 = .ok (.bipush 6, 2) := by decide +kernel
theorem dX4_commandFault_7 : decode cX4_commandFault 7 = .ok (.if_icmp .ge 22, 3) := by decide +kernel
theorem dX4_commandFault_10 : decode cX4_commandFault 10 = .ok (.iload_n 1, 1) := by decide +kernel
theorem dX4_commandFault_11 : decode cX4_commandFault 11 = .ok (.aload_n 0, 1) := by decide +kernel
theorem dX4_commandFault_12 : decode cX4_commandFault 12 = .ok (.iload_n 2, 1) := by decide +kernel
theorem dX4_commandFault_13 : decode cX4_commandFault 13 = .ok (.invokestatic 34, 3) := by decide +kernel
theorem dX4_commandFault_16 : decode cX4_commandFault 16 = .ok (.invokevirtual 38, 3) := by decide +kernel
theorem dX4_commandFault_19 : decode cX4_commandFault 19 = .ok (.invokestatic 42, 3) := by decide +kernel
theorem dX4_commandFault_22 : decode cX4_commandFault 22 = .ok (.istore_n 1, 1) := by decide +kernel
theorem dX4_commandFault_23 : decode cX4_commandFault 23 = .ok (.iinc 2 1, 3) := by decide +kernel
theorem dX4_commandFault_26 : decode cX4_commandFault 26 = .ok (.goto (-22), 3) := by decide +kernel
theorem dX4_commandFault_29 : decode cX4_commandFault 29 = .ok (.iload_n 1, 1) := by decide +kernel
theorem dX4_commandFault_30 : decode cX4_commandFault 30 = .ok (.ireturn, 1) := by decide +kernel
theorem dX4_command_0 : decode cX4_command 0 = .ok (.iconst 0, 1) := by decide +kernel
theorem dX4_command_1 : decode cX4_command 1 = .ok (.istore_n 1, 1) := by decide +kernel
theorem dX4_command_2 : decode cX4_command 2 = .ok (.iload_n 1, 1) := by decide +kernel
theorem dX4_command_3 : decode cX4_command 3 = .ok (.bipush 6, 2) := by decide +kernel
theorem dX4_command_5 : decode cX4_command 5 = .ok (.if_icmp .ge 39, 3) := by decide +kernel
theorem dX4_command_8 : decode cX4_command 8 = .ok (.iload_n 1, 1) := by decide +kernel
theorem dX4_command_9 : decode cX4_command 9 = .ok (.invokestatic 34, 3) := by decide +kernel
theorem dX4_command_12 : decode cX4_command 12 = .ok (.astore_n 2, 1) := by decide +kernel
theorem dX4_command_13 : decode cX4_command 13 = .ok (.aload_n 0, 1) := by decide +kernel
theorem dX4_command_14 : decode cX4_command 14 = .ok (.getfield 15, 3) := by decide +kernel
theorem dX4_command_17 : decode cX4_command 17 = .ok (.aload_n 2, 1) := by decide +kernel
theorem dX4_command_18 : decode cX4_command 18 = .ok (.invokevirtual 48, 3) := by decide +kernel
theorem dX4_command_21 : decode cX4_command 21 = .ok (.if_icmp .ne 17, 3) := by decide +kernel
theorem dX4_command_24 : decode cX4_command 24 = .ok (.aload_n 0, 1) := by decide +kernel
theorem dX4_command_25 : decode cX4_command 25 = .ok (.aload_n 2, 1) := by decide +kernel
theorem dX4_command_26 : decode cX4_command 26 = .ok (.invokevirtual 38, 3) := by decide +kernel
theorem dX4_command_29 : decode cX4_command 29 = .ok (.aload_n 0, 1) := by decide +kernel
theorem dX4_command_30 : decode cX4_command 30 = .ok (.getfield 15, 3) := by decide +kernel
theorem dX4_command_33 : decode cX4_command 33 = .ok (.if_icmp .ne 5, 3) := by decide +kernel
theorem dX4_command_36 : decode cX4_command 36 = .ok (.iload_n 1, 1) := by decide +kernel
theorem dX4_command_37 : decode cX4_command 37 = .ok (.ireturn, 1) := by decide +kernel
theorem dX4_command_38 : decode cX4_command 38 = .ok (.iinc 1 1, 3) := by decide +kernel
theorem dX4_command_41 : decode cX4_command 41 = .ok (.goto (-39), 3) := by decide +kernel
theorem dX4_command_44 : decode cX4_command 44 = .ok (.iconst (-1), 1) := by decide +kernel
theorem dX4_command_45 : decode cX4_command 45 = .ok (.ireturn, 1) := by decide +kernel
theorem dX5_crossingSet_0 : decode cX5_crossingSet 0 = .ok (.iconst 0, 1) := by decide +kernel
theorem dX5_crossingSet_1 : decode cX5_crossingSet 1 = .ok (.istore_n 2, 1) := by decide +kernel
theorem dX5_crossingSet_2 : decode cX5_crossingSet 2 = .ok (.iconst 0, 1) := by decide +kernel
theorem dX5_crossingSet_3 : decode cX5_crossingSet 3 = .ok (.istore_n 3, 1) := by decide +kernel
theorem dX5_crossingSet_4 : decode cX5_crossingSet 4 = .ok (.iload_n 3, 1) := by decide +kernel
theorem dX5_crossingSet_5 : decode cX5_crossingSet 5 = .ok (.aload_n 0, 1) := by decide +kernel
theorem dX5_crossingSet_6 : decode cX5_crossingSet 6 = .ok (.getfield 45, 3) := by decide +kernel
theorem dX5_crossingSet_9 : decode cX5_crossingSet 9 = .ok (.if_icmp .ge 29, 3) := by decide +kernel
theorem dX5_crossingSet_12 : decode cX5_crossingSet 12 = .ok (.aload_n 0, 1) := by decide +kernel
theorem dX5_crossingSet_13 : decode cX5_crossingSet 13 = .ok (.iload_n 3, 1) := by decide +kernel
theorem dX5_crossingSet_14 : decode cX5_crossingSet 14 = .ok (.iload_n 1, 1) := by decide +kernel
theorem dX5_crossingSet_15 : decode cX5_crossingSet 15 = .ok (.invokevirtual 48, 3) := by decide +kernel
theorem dX5_crossingSet_18 : decode cX5_crossingSet 18 = .ok (.ifCond .eq 14, 3) := by decide +kernel
theorem dX5_crossingSet_21 : decode cX5_crossingSet 21 = .ok (.iload_n 2, 1) := by decide +kernel
theorem dX5_crossingSet_22 : decode cX5_crossingSet 22 = .ok (.iconst 1, 1) := by decide +kernel
theorem dX5_crossingSet_23 : decode cX5_crossingSet 23 = .ok (.aload_n 0, 1) := by decide +kernel
theorem dX5_crossingSet_24 : decode cX5_crossingSet 24 = .ok (.getfield 51, 3) := by decide +kernel
theorem dX5_crossingSet_27 : decode cX5_crossingSet 27 = .ok (.iload_n 3, 1) := by decide +kernel
theorem dX5_crossingSet_28 : decode cX5_crossingSet 28 = .ok (.iaload, 1) := by decide +kernel
theorem dX5_crossingSet_29 : decode cX5_crossingSet 29 = .ok (.ishl, 1) := by decide +kernel
theorem dX5_crossingSet_30 : decode cX5_crossingSet 30 = .ok (.ior, 1) := by decide +kernel
theorem dX5_crossingSet_31 : decode cX5_crossingSet 31 = .ok (.istore_n 2, 1) := by decide +kernel
theorem dX5_crossingSet_32 : decode cX5_crossingSet 32 = .ok (.iinc 3 1, 3) := by decide +kernel
theorem dX5_crossingSet_35 : decode cX5_crossingSet 35 = .ok (.goto (-31), 3) := by decide +kernel
theorem dX5_crossingSet_38 : decode cX5_crossingSet 38 = .ok (.iload_n 2, 1) := by decide +kernel
theorem dX5_crossingSet_39 : decode cX5_crossingSet 39 = .ok (.ireturn, 1) := by decide +kernel
theorem dX5_isNewZone_0 : decode cX5_isNewZone 0 = .ok (.aload_n 0, 1) := by decide +kernel
theorem dX5_isNewZone_1 : decode cX5_isNewZone 1 = .ok (.getfield 9, 3) := by decide +kernel
theorem dX5_isNewZone_4 : decode cX5_isNewZone 4 = .ok (.iload_n 1, 1) := by decide +kernel
theorem dX5_isNewZone_5 : decode cX5_isNewZone 5 = .ok (.iaload, 1) := by decide +kernel
theorem dX5_isNewZone_6 : decode cX5_isNewZone 6 = .ok (.istore_n 3, 1) := by decide +kernel
theorem dX5_isNewZone_7 : decode cX5_isNewZone 7 = .ok (.iload_n 3, 1) := by decide +kernel
theorem dX5_isNewZone_8 : decode cX5_isNewZone 8 = .ok (.ifCond .ne 5, 3) := by decide +kernel
theorem dX5_isNewZone_11 : decode cX5_isNewZone 11 = .ok (.iconst 0, 1) := by decide +kernel
theorem dX5_isNewZone_12 : decode cX5_isNewZone 12 = .ok (.ireturn, 1) := by decide +kernel
theorem dX5_isNewZone_13 : decode cX5_isNewZone 13 = .ok (.iconst 0, 1) := by decide +kernel
theorem dX5_isNewZone_14 : decode cX5_isNewZone 14 = .ok (.istore 4, 2) := by decide +kernel
theorem dX5_isNewZone_16 : decode cX5_isNewZone 16 = .ok (.iload 4, 2) := by decide +kernel
theorem dX5_isNewZone_18 : decode cX5_isNewZone 18 = .ok (.iload_n 2, 1) := by decide +kernel
theorem dX5_isNewZone_19 : decode cX5_isNewZone 19 = .ok (.if_icmp .ge 71, 3) := by decide +kernel
theorem dX5_isNewZone_22 : decode cX5_isNewZone 22 = .ok (.iload_n 3, 1) := by decide +kernel
theorem dX5_isNewZone_23 : decode cX5_isNewZone 23 = .ok (.aload_n 0, 1) := by decide +kernel
theorem dX5_isNewZone_24 : decode cX5_isNewZone 24 = .ok (.getfield 9, 3) := by decide +kernel
theorem dX5_isNewZone_27 : decode cX5_isNewZone 27 = .ok (.iload 4, 2) := by decide +kernel
theorem dX5_isNewZone_29 : decode cX5_isNewZone 29 = .ok (.iaload, 1) := by decide +kernel
theorem dX5_isNewZone_30 : decode cX5_isNewZone 30 = .ok (.iconst (-1), 1) := by decide +kernel
theorem dX5_isNewZone_31 : decode cX5_isNewZone 31 = .ok (.ixor, 1) := by decide +kernel
theorem dX5_isNewZone_32 : decode cX5_isNewZone 32 = .ok (.iand, 1) := by decide +kernel
theorem dX5_isNewZone_33 : decode cX5_isNewZone 33 = .ok (.ifCond .ne 7, 3) := by decide +kernel
theorem dX5_isNewZone_36 : decode cX5_isNewZone 36 = .ok (.iconst 1, 1) := by decide +kernel
theorem dX5_isNewZone_37 : decode cX5_isNewZone 37 = .ok (.goto 4, 3) := by decide +kernel
theorem dX5_isNewZone_40 : decode cX5_isNewZone 40 = .ok (.iconst 0, 1) := by decide +kernel
theorem dX5_isNewZone_41 : decode cX5_isNewZone 41 = .ok (.istore 5, 2) := by decide +kernel
theorem dX5_isNewZone_43 : decode cX5_isNewZone 43 = .ok (.iload_n 3, 1) := by decide +kernel
theorem dX5_isNewZone_44 : decode cX5_isNewZone 44 = .ok (.aload_n 0, 1) := by decide +kernel
theorem dX5_isNewZone_45 : decode cX5_isNewZone 45 = .ok (.getfield 9, 3) := by decide +kernel
theorem dX5_isNewZone_48 : decode cX5_isNewZone 48 = .ok (.iload 4, 2) := by decide +kernel
theorem dX5_isNewZone_50 : decode cX5_isNewZone 50 = .ok (.iaload, 1) := by decide +kernel
theorem dX5_isNewZone_51 : decode cX5_isNewZone 51 = .ok (.if_icmp .ne 7, 3) := by decide +kernel
theorem dX5_isNewZone_54 : decode cX5_isNewZone 54 = .ok (.iconst 1, 1) := by decide +kernel
theorem dX5_isNewZone_55 : decode cX5_isNewZone 55 = .ok (.goto 4, 3) := by decide +kernel
theorem dX5_isNewZone_58 : decode cX5_isNewZone 58 = .ok (.iconst 0, 1) := by decide +kernel
theorem dX5_isNewZone_59 : decode cX5_isNewZone 59 = .ok (.istore 6, 2) := by decide +kernel
theorem dX5_isNewZone_61 : decode cX5_isNewZone 61 = .ok (.iload 5, 2) := by decide +kernel
theorem dX5_isNewZone_63 : decode cX5_isNewZone 63 = .ok (.ifCond .eq 8, 3) := by decide +kernel
theorem dX5_isNewZone_66 : decode cX5_isNewZone 66 = .ok (.iload 6, 2) := by decide +kernel
theorem dX5_isNewZone_68 : decode cX5_isNewZone 68 = .ok (.ifCond .eq 14, 3) := by decide +kernel
theorem dX5_isNewZone_71 : decode cX5_isNewZone 71 = .ok (.iload 6, 2) := by decide +kernel
theorem dX5_isNewZone_73 : decode cX5_isNewZone 73 = .ok (.ifCond .eq 11, 3) := by decide +kernel
theorem dX5_isNewZone_76 : decode cX5_isNewZone 76 = .ok (.iload 4, 2) := by decide +kernel
theorem dX5_isNewZone_78 : decode cX5_isNewZone 78 = .ok (.iload_n 1, 1) := by decide +kernel
theorem dX5_isNewZone_79 : decode cX5_isNewZone 79 = .ok (.if_icmp .ge 5, 3) := by decide +kernel
theorem dX5_isNewZone_82 : decode cX5_isNewZone 82 = .ok (.iconst 0, 1) := by decide +kernel
theorem dX5_isNewZone_83 : decode cX5_isNewZone 83 = .ok (.ireturn, 1) := by decide +kernel
theorem dX5_isNewZone_84 : decode cX5_isNewZone 84 = .ok (.iinc 4 1, 3) := by decide +kernel
theorem dX5_isNewZone_87 : decode cX5_isNewZone 87 = .ok (.goto (-71), 3) := by decide +kernel
theorem dX5_isNewZone_90 : decode cX5_isNewZone 90 = .ok (.iconst 1, 1) := by decide +kernel
theorem dX5_isNewZone_91 : decode cX5_isNewZone 91 = .ok (.ireturn, 1) := by decide +kernel
theorem dX5_find_0 : decode cX5_find 0 = .ok (.aload_n 0, 1) := by decide +kernel
theorem dX5_find_1 : decode cX5_find 1 = .ok (.iconst 0, 1) := by decide +kernel
theorem dX5_find_2 : decode cX5_find 2 = .ok (.putfield 18, 3) := by decide +kernel
theorem dX5_find_5 : decode cX5_find 5 = .ok (.iconst 0, 1) := by decide +kernel
theorem dX5_find_6 : decode cX5_find 6 = .ok (.istore_n 3, 1) := by decide +kernel
theorem dX5_find_7 : decode cX5_find 7 = .ok (.iload_n 3, 1) := by decide +kernel
theorem dX5_find_8 : decode cX5_find 8 = .ok (.iload_n 2, 1) := by decide +kernel
theorem dX5_find_9 : decode cX5_find 9 = .ok (.if_icmp .ge 40, 3) := by decide +kernel
theorem dX5_find_12 : decode cX5_find 12 = .ok (.aload_n 0, 1) := by decide +kernel
theorem dX5_find_13 : decode cX5_find 13 = .ok (.getfield 9, 3) := by decide +kernel
theorem dX5_find_16 : decode cX5_find 16 = .ok (.iload_n 3, 1) := by decide +kernel
theorem dX5_find_17 : decode cX5_find 17 = .ok (.aload_n 1, 1) := by decide +kernel
theorem dX5_find_18 : decode cX5_find 18 = .ok (.iload_n 3, 1) := by decide +kernel
theorem dX5_find_19 : decode cX5_find 19 = .ok (.invokestatic 22, 3) := by decide +kernel
theorem dX5_find_22 : decode cX5_find 22 = .ok (.iastore, 1) := by decide +kernel
theorem dX5_find_23 : decode cX5_find 23 = .ok (.aload_n 0, 1) := by decide +kernel
theorem dX5_find_24 : decode cX5_find 24 = .ok (.aload_n 0, 1) := by decide +kernel
theorem dX5_find_25 : decode cX5_find 25 = .ok (.getfield 18, 3) := by decide +kernel
theorem dX5_find_28 : decode cX5_find 28 = .ok (.aload_n 0, 1) := by decide +kernel
theorem dX5_find_29 : decode cX5_find 29 = .ok (.getfield 9, 3) := by decide +kernel
theorem dX5_find_32 : decode cX5_find 32 = .ok (.iload_n 3, 1) := by decide +kernel
theorem dX5_find_33 : decode cX5_find 33 = .ok (.iaload, 1) := by decide +kernel
theorem dX5_find_34 : decode cX5_find 34 = .ok (.invokestatic 26, 3) := by decide +kernel
theorem dX5_find_37 : decode cX5_find 37 = .ok (.invokestatic 32, 3) := by decide +kernel
theorem dX5_find_40 : decode cX5_find 40 = .ok (.putfield 18, 3) := by decide +kernel
theorem dX5_find_43 : decode cX5_find 43 = .ok (.iinc 3 1, 3) := by decide +kernel
theorem dX5_find_46 : decode cX5_find 46 = .ok (.goto (-39), 3) := by decide +kernel
theorem dX5_find_49 : decode cX5_find 49 = .ok (.aload_n 0, 1) := by decide +kernel
theorem dX5_find_50 : decode cX5_find 50 = .ok (.iconst 0, 1) := by decide +kernel
theorem dX5_find_51 : decode cX5_find 51 = .ok (.putfield 38, 3) := by decide +kernel
theorem dX5_find_54 : decode cX5_find 54 = .ok (.iconst 0, 1) := by decide +kernel
theorem dX5_find_55 : decode cX5_find 55 = .ok (.istore_n 3, 1) := by decide +kernel
theorem dX5_find_56 : decode cX5_find 56 = .ok (.iload_n 3, 1) := by decide +kernel
theorem dX5_find_57 : decode cX5_find 57 = .ok (.iload_n 2, 1) := by decide +kernel
theorem dX5_find_58 : decode cX5_find 58 = .ok (.if_icmp .ge 43, 3) := by decide +kernel
theorem dX5_find_61 : decode cX5_find 61 = .ok (.aload_n 0, 1) := by decide +kernel
theorem dX5_find_62 : decode cX5_find 62 = .ok (.iload_n 3, 1) := by decide +kernel
theorem dX5_find_63 : decode cX5_find 63 = .ok (.iload_n 2, 1) := by decide +kernel
theorem dX5_find_64 : decode cX5_find 64 = .ok (.invokevirtual 41, 3) := by decide +kernel
theorem dX5_find_67 : decode cX5_find 67 = .ok (.ifCond .eq 28, 3) := by decide +kernel
theorem dX5_find_70 : decode cX5_find 70 = .ok (.aload_n 0, 1) := by decide +kernel
theorem dX5_find_71 : decode cX5_find 71 = .ok (.getfield 15, 3) := by decide +kernel
theorem dX5_find_74 : decode cX5_find 74 = .ok (.aload_n 0, 1) := by decide +kernel
theorem dX5_find_75 : decode cX5_find 75 = .ok (.getfield 38, 3) := by decide +kernel
theorem dX5_find_78 : decode cX5_find 78 = .ok (.aload_n 0, 1) := by decide +kernel
theorem dX5_find_79 : decode cX5_find 79 = .ok (.getfield 9, 3) := by decide +kernel
theorem dX5_find_82 : decode cX5_find 82 = .ok (.iload_n 3, 1) := by decide +kernel
theorem dX5_find_83 : decode cX5_find 83 = .ok (.iaload, 1) := by decide +kernel
theorem dX5_find_84 : decode cX5_find 84 = .ok (.iastore, 1) := by decide +kernel
theorem dX5_find_85 : decode cX5_find 85 = .ok (.aload_n 0, 1) := by decide +kernel
theorem dX5_find_86 : decode cX5_find 86 = .ok (.dup, 1) := by decide +kernel
theorem dX5_find_87 : decode cX5_find 87 = .ok (.getfield 38, 3) := by decide +kernel
theorem dX5_find_90 : decode cX5_find 90 = .ok (.iconst 1, 1) := by decide +kernel
theorem dX5_find_91 : decode cX5_find 91 = .ok (.iadd, 1) := by decide +kernel
theorem dX5_find_92 : decode cX5_find 92 = .ok (.putfield 38, 3) := by decide +kernel
theorem dX5_find_95 : decode cX5_find 95 = .ok (.iinc 3 1, 3) := by decide +kernel
theorem dX5_find_98 : decode cX5_find 98 = .ok (.goto (-42), 3) := by decide +kernel
theorem dX5_find_101 : decode cX5_find 101 = .ok (.return_, 1) := by decide +kernel
theorem dX6_letter_0 : decode cX6_letter 0 = .ok (.iload_n 1, 1) := by decide +kernel
theorem dX6_letter_1 : decode cX6_letter 1 = .ok (.bipush 32, 2) := by decide +kernel
theorem dX6_letter_3 : decode cX6_letter 3 = .ok (.if_icmp .lt 9, 3) := by decide +kernel
theorem dX6_letter_6 : decode cX6_letter 6 = .ok (.iload_n 1, 1) := by decide +kernel
theorem dX6_letter_7 : decode cX6_letter 7 = .ok (.bipush 126, 2) := by decide +kernel
theorem dX6_letter_9 : decode cX6_letter 9 = .ok (.if_icmp .le 6, 3) := by decide +kernel
theorem dX6_letter_12 : decode cX6_letter 12 = .ok (.bipush (-102), 2) := by decide +kernel
theorem dX6_letter_14 : decode cX6_letter 14 = .ok (.ireturn, 1) := by decide +kernel
theorem dX6_letter_15 : decode cX6_letter 15 = .ok (.aload_n 0, 1) := by decide +kernel
theorem dX6_letter_16 : decode cX6_letter 16 = .ok (.getfield 10, 3) := by decide +kernel
theorem dX6_letter_19 : decode cX6_letter 19 = .ok (.getfield 54, 3) := by decide +kernel
theorem dX6_letter_22 : decode cX6_letter 22 = .ok (.bipush 20, 2) := by decide +kernel
theorem dX6_letter_24 : decode cX6_letter 24 = .ok (.if_icmp .lt 6, 3) := by decide +kernel
theorem dX6_letter_27 : decode cX6_letter 27 = .ok (.bipush (-104), 2) := by decide +kernel
theorem dX6_letter_29 : decode cX6_letter 29 = .ok (.ireturn, 1) := by decide +kernel
theorem dX6_letter_30 : decode cX6_letter 30 = .ok (.aload_n 0, 1) := by decide +kernel
theorem dX6_letter_31 : decode cX6_letter 31 = .ok (.getfield 10, 3) := by decide +kernel
theorem dX6_letter_34 : decode cX6_letter 34 = .ok (.iload_n 1, 1) := by decide +kernel
theorem dX6_letter_35 : decode cX6_letter 35 = .ok (.invokevirtual 58, 3) := by decide +kernel
theorem dX6_letter_38 : decode cX6_letter 38 = .ok (.aload_n 0, 1) := by decide +kernel
theorem dX6_letter_39 : decode cX6_letter 39 = .ok (.getfield 10, 3) := by decide +kernel
theorem dX6_letter_42 : decode cX6_letter 42 = .ok (.getfield 54, 3) := by decide +kernel
theorem dX6_letter_45 : decode cX6_letter 45 = .ok (.ireturn, 1) := by decide +kernel
theorem dX6_blank_0 : decode cX6_blank 0 = .ok (.aload_n 0, 1) := by decide +kernel
theorem dX6_blank_1 : decode cX6_blank 1 = .ok (.getfield 10, 3) := by decide +kernel
theorem dX6_blank_4 : decode cX6_blank 4 = .ok (.getfield 54, 3) := by decide +kernel
theorem dX6_blank_7 : decode cX6_blank 7 = .ok (.istore_n 1, 1) := by decide +kernel
theorem dX6_blank_8 : decode cX6_blank 8 = .ok (.aload_n 0, 1) := by decide +kernel
theorem dX6_blank_9 : decode cX6_blank 9 = .ok (.getfield 10, 3) := by decide +kernel
theorem dX6_blank_12 : decode cX6_blank 12 = .ok (.iconst 0, 1) := by decide +kernel
theorem dX6_blank_13 : decode cX6_blank 13 = .ok (.putfield 54, 3) := by decide +kernel
theorem dX6_blank_16 : decode cX6_blank 16 = .ok (.iload_n 1, 1) := by decide +kernel
theorem dX6_blank_17 : decode cX6_blank 17 = .ok (.ireturn, 1) := by decide +kernel
theorem dX6_fault_0 : decode cX6_fault 0 = .ok (.iload_n 1, 1) := by decide +kernel
theorem dX6_fault_1 : decode cX6_fault 1 = .ok (.ifCond .ne 11, 3) := by decide +kernel
theorem dX6_fault_4 : decode cX6_fault 4 = .ok (.aload_n 0, 1) := by decide +kernel
theorem dX6_fault_5 : decode cX6_fault 5 = .ok (.getfield 10, 3) := by decide +kernel
theorem dX6_fault_8 : decode cX6_fault 8 = .ok (.invokevirtual 62, 3) := by decide +kernel
theorem dX6_fault_11 : decode cX6_fault 11 = .ok (.ireturn, 1) := by decide +kernel
theorem dX6_fault_12 : decode cX6_fault 12 = .ok (.iload_n 1, 1) := by decide +kernel
theorem dX6_fault_13 : decode cX6_fault 13 = .ok (.iconst 1, 1) := by decide +kernel
theorem dX6_fault_14 : decode cX6_fault 14 = .ok (.if_icmp .ne 11, 3) := by decide +kernel
theorem dX6_fault_17 : decode cX6_fault 17 = .ok (.aload_n 0, 1) := by decide +kernel
theorem dX6_fault_18 : decode cX6_fault 18 = .ok (.getfield 10, 3) := by decide +kernel
theorem dX6_fault_21 : decode cX6_fault 21 = .ok (.invokevirtual 66, 3) := by decide +kernel
theorem dX6_fault_24 : decode cX6_fault 24 = .ok (.ireturn, 1) := by decide +kernel
theorem dX6_fault_25 : decode cX6_fault 25 = .ok (.bipush (-102), 2) := by decide +kernel
theorem dX6_fault_27 : decode cX6_fault 27 = .ok (.ireturn, 1) := by decide +kernel
theorem dX6_derive_0 : decode cX6_derive 0 = .ok (.aload_n 0, 1) := by decide +kernel
theorem dX6_derive_1 : decode cX6_derive 1 = .ok (.getfield 26, 3) := by decide +kernel
theorem dX6_derive_4 : decode cX6_derive 4 = .ok (.aload_n 0, 1) := by decide +kernel
theorem dX6_derive_5 : decode cX6_derive 5 = .ok (.getfield 19, 3) := by decide +kernel
theorem dX6_derive_8 : decode cX6_derive 8 = .ok (.aload_n 0, 1) := by decide +kernel
theorem dX6_derive_9 : decode cX6_derive 9 = .ok (.getfield 83, 3) := by decide +kernel
theorem dX6_derive_12 : decode cX6_derive 12 = .ok (.invokevirtual 307, 3) := by decide +kernel
theorem dX6_derive_15 : decode cX6_derive 15 = .ok (.aload_n 0, 1) := by decide +kernel
theorem dX6_derive_16 : decode cX6_derive 16 = .ok (.getfield 36, 3) := by decide +kernel
theorem dX6_derive_19 : decode cX6_derive 19 = .ok (.aload_n 0, 1) := by decide +kernel
theorem dX6_derive_20 : decode cX6_derive 20 = .ok (.getfield 26, 3) := by decide +kernel
theorem dX6_derive_23 : decode cX6_derive 23 = .ok (.invokevirtual 311, 3) := by decide +kernel
theorem dX6_derive_26 : decode cX6_derive 26 = .ok (.aload_n 0, 1) := by decide +kernel
theorem dX6_derive_27 : decode cX6_derive 27 = .ok (.getfield 43, 3) := by decide +kernel
theorem dX6_derive_30 : decode cX6_derive 30 = .ok (.aload_n 0, 1) := by decide +kernel
theorem dX6_derive_31 : decode cX6_derive 31 = .ok (.getfield 26, 3) := by decide +kernel
theorem dX6_derive_34 : decode cX6_derive 34 = .ok (.aload_n 0, 1) := by decide +kernel
theorem dX6_derive_35 : decode cX6_derive 35 = .ok (.getfield 19, 3) := by decide +kernel
theorem dX6_derive_38 : decode cX6_derive 38 = .ok (.getfield 72, 3) := by decide +kernel
theorem dX6_derive_41 : decode cX6_derive 41 = .ok (.invokevirtual 314, 3) := by decide +kernel
theorem dX6_derive_44 : decode cX6_derive 44 = .ok (.aload_n 0, 1) := by decide +kernel
theorem dX6_derive_45 : decode cX6_derive 45 = .ok (.getfield 50, 3) := by decide +kernel
theorem dX6_derive_48 : decode cX6_derive 48 = .ok (.invokevirtual 234, 3) := by decide +kernel
theorem dX6_derive_51 : decode cX6_derive 51 = .ok (.return_, 1) := by decide +kernel
theorem dX6_channel_0 : decode cX6_channel 0 = .ok (.aload_n 0, 1) := by decide +kernel
theorem dX6_channel_1 : decode cX6_channel 1 = .ok (.getfield 10, 3) := by decide +kernel
theorem dX6_channel_4 : decode cX6_channel 4 = .ok (.invokevirtual 69, 3) := by decide +kernel
theorem dX6_channel_7 : decode cX6_channel 7 = .ok (.istore_n 1, 1) := by decide +kernel
theorem dX6_channel_8 : decode cX6_channel 8 = .ok (.iload_n 1, 1) := by decide +kernel
theorem dX6_channel_9 : decode cX6_channel 9 = .ok (.iconst (-1), 1) := by decide +kernel
theorem dX6_channel_10 : decode cX6_channel 10 = .ok (.if_icmp .ne 6, 3) := by decide +kernel
theorem dX6_channel_13 : decode cX6_channel 13 = .ok (.bipush (-103), 2) := by decide +kernel
theorem dX6_channel_15 : decode cX6_channel 15 = .ok (.ireturn, 1) := by decide +kernel
theorem dX6_channel_16 : decode cX6_channel 16 = .ok (.aload_n 0, 1) := by decide +kernel
theorem dX6_channel_17 : decode cX6_channel 17 = .ok (.getfield 19, 3) := by decide +kernel
theorem dX6_channel_20 : decode cX6_channel 20 = .ok (.iload_n 1, 1) := by decide +kernel
theorem dX6_channel_21 : decode cX6_channel 21 = .ok (.putfield 72, 3) := by decide +kernel
theorem dX6_channel_24 : decode cX6_channel 24 = .ok (.iconst 0, 1) := by decide +kernel
theorem dX6_channel_25 : decode cX6_channel 25 = .ok (.istore_n 2, 1) := by decide +kernel
theorem dX6_channel_26 : decode cX6_channel 26 = .ok (.iload_n 2, 1) := by decide +kernel
theorem dX6_channel_27 : decode cX6_channel 27 = .ok (.iload_n 1, 1) := by decide +kernel
theorem dX6_channel_28 : decode cX6_channel 28 = .ok (.if_icmp .ge 47, 3) := by decide +kernel
theorem dX6_channel_31 : decode cX6_channel 31 = .ok (.aload_n 0, 1) := by decide +kernel
theorem dX6_channel_32 : decode cX6_channel 32 = .ok (.getfield 19, 3) := by decide +kernel
theorem dX6_channel_35 : decode cX6_channel 35 = .ok (.iload_n 2, 1) := by decide +kernel
theorem dX6_channel_36 : decode cX6_channel 36 = .ok (.iconst 0, 1) := by decide +kernel
theorem dX6_channel_37 : decode cX6_channel 37 = .ok (.aload_n 0, 1) := by decide +kernel
theorem dX6_channel_38 : decode cX6_channel 38 = .ok (.getfield 10, 3) := by decide +kernel
theorem dX6_channel_41 : decode cX6_channel 41 = .ok (.iload_n 2, 1) := by decide +kernel
theorem dX6_channel_42 : decode cX6_channel 42 = .ok (.invokevirtual 75, 3) := by decide +kernel
theorem dX6_channel_45 : decode cX6_channel 45 = .ok (.invokevirtual 79, 3) := by decide +kernel
theorem dX6_channel_48 : decode cX6_channel 48 = .ok (.aload_n 0, 1) := by decide +kernel
theorem dX6_channel_49 : decode cX6_channel 49 = .ok (.getfield 19, 3) := by decide +kernel
theorem dX6_channel_52 : decode cX6_channel 52 = .ok (.iload_n 2, 1) := by decide +kernel
theorem dX6_channel_53 : decode cX6_channel 53 = .ok (.iconst 1, 1) := by decide +kernel
theorem dX6_channel_54 : decode cX6_channel 54 = .ok (.aload_n 0, 1) := by decide +kernel
theorem dX6_channel_55 : decode cX6_channel 55 = .ok (.getfield 10, 3) := by decide +kernel
theorem dX6_channel_58 : decode cX6_channel 58 = .ok (.iload_n 1, 1) := by decide +kernel
theorem dX6_channel_59 : decode cX6_channel 59 = .ok (.iconst 1, 1) := by decide +kernel
theorem dX6_channel_60 : decode cX6_channel 60 = .ok (.iadd, 1) := by decide +kernel
theorem dX6_channel_61 : decode cX6_channel 61 = .ok (.iload_n 2, 1) := by decide +kernel
theorem dX6_channel_62 : decode cX6_channel 62 = .ok (.iadd, 1) := by decide +kernel
theorem dX6_channel_63 : decode cX6_channel 63 = .ok (.invokevirtual 75, 3) := by decide +kernel
theorem dX6_channel_66 : decode cX6_channel 66 = .ok (.invokevirtual 79, 3) := by decide +kernel
theorem dX6_channel_69 : decode cX6_channel 69 = .ok (.iinc 2 1, 3) := by decide +kernel
theorem dX6_channel_72 : decode cX6_channel 72 = .ok (.goto (-46), 3) := by decide +kernel
theorem dX6_channel_75 : decode cX6_channel 75 = .ok (.aload_n 0, 1) := by decide +kernel
theorem dX6_channel_76 : decode cX6_channel 76 = .ok (.iconst 0, 1) := by decide +kernel
theorem dX6_channel_77 : decode cX6_channel 77 = .ok (.putfield 83, 3) := by decide +kernel
theorem dX6_channel_80 : decode cX6_channel 80 = .ok (.aload_n 0, 1) := by decide +kernel
theorem dX6_channel_81 : decode cX6_channel 81 = .ok (.invokevirtual 86, 3) := by decide +kernel
theorem dX6_channel_84 : decode cX6_channel 84 = .ok (.aload_n 0, 1) := by decide +kernel
theorem dX6_channel_85 : decode cX6_channel 85 = .ok (.getfield 10, 3) := by decide +kernel
theorem dX6_channel_88 : decode cX6_channel 88 = .ok (.iconst 0, 1) := by decide +kernel
theorem dX6_channel_89 : decode cX6_channel 89 = .ok (.putfield 54, 3) := by decide +kernel
theorem dX6_channel_92 : decode cX6_channel 92 = .ok (.aload_n 0, 1) := by decide +kernel
theorem dX6_channel_93 : decode cX6_channel 93 = .ok (.dup, 1) := by decide +kernel
theorem dX6_channel_94 : decode cX6_channel 94 = .ok (.getfield 89, 3) := by decide +kernel
theorem dX6_channel_97 : decode cX6_channel 97 = .ok (.iconst 1, 1) := by decide +kernel
theorem dX6_channel_98 : decode cX6_channel 98 = .ok (.iadd, 1) := by decide +kernel
theorem dX6_channel_99 : decode cX6_channel 99 = .ok (.putfield 89, 3) := by decide +kernel
theorem dX6_channel_102 : decode cX6_channel 102 = .ok (.iload_n 1, 1) := by decide +kernel
theorem dX6_channel_103 : decode cX6_channel 103 = .ok (.ireturn, 1) := by decide +kernel
theorem dX6_hasChannel_0 : decode cX6_hasChannel 0 = .ok (.aload_n 0, 1) := by decide +kernel
theorem dX6_hasChannel_1 : decode cX6_hasChannel 1 = .ok (.getfield 19, 3) := by decide +kernel
theorem dX6_hasChannel_4 : decode cX6_hasChannel 4 = .ok (.getfield 72, 3) := by decide +kernel
theorem dX6_hasChannel_7 : decode cX6_hasChannel 7 = .ok (.ifCond .le 7, 3) := by decide +kernel
theorem dX6_hasChannel_10 : decode cX6_hasChannel 10 = .ok (.iconst 1, 1) := by decide +kernel
theorem dX6_hasChannel_11 : decode cX6_hasChannel 11 = .ok (.goto 4, 3) := by decide +kernel
theorem dX6_hasChannel_14 : decode cX6_hasChannel 14 = .ok (.iconst 0, 1) := by decide +kernel
theorem dX6_hasChannel_15 : decode cX6_hasChannel 15 = .ok (.ireturn, 1) := by decide +kernel
theorem dX6_pack_0 : decode cX6_pack 0 = .ok (.aload_n 0, 1) := by decide +kernel
theorem dX6_pack_1 : decode cX6_pack 1 = .ok (.invokevirtual 118, 3) := by decide +kernel
theorem dX6_pack_4 : decode cX6_pack 4 = .ok (.ifCond .eq 13, 3) := by decide +kernel
theorem dX6_pack_7 : decode cX6_pack 7 = .ok (.aload_n 0, 1) := by decide +kernel
theorem dX6_pack_8 : decode cX6_pack 8 = .ok (.getfield 26, 3) := by decide +kernel
theorem dX6_pack_11 : decode cX6_pack 11 = .ok (.invokevirtual 237, 3) := by decide +kernel
theorem dX6_pack_14 : decode cX6_pack 14 = .ok (.ifCond .eq 6, 3) := by decide +kernel
theorem dX6_pack_17 : decode cX6_pack 17 = .ok (.bipush (-103), 2) := by decide +kernel
theorem dX6_pack_19 : decode cX6_pack 19 = .ok (.ireturn, 1) := by decide +kernel
theorem dX6_pack_20 : decode cX6_pack 20 = .ok (.aload_n 0, 1) := by decide +kernel
theorem dX6_pack_21 : decode cX6_pack 21 = .ok (.getfield 50, 3) := by decide +kernel
theorem dX6_pack_24 : decode cX6_pack 24 = .ok (.aload_n 0, 1) := by decide +kernel
theorem dX6_pack_25 : decode cX6_pack 25 = .ok (.getfield 26, 3) := by decide +kernel
theorem dX6_pack_28 : decode cX6_pack 28 = .ok (.invokevirtual 240, 3) := by decide +kernel
theorem dX6_pack_31 : decode cX6_pack 31 = .ok (.aload_n 0, 1) := by decide +kernel
theorem dX6_pack_32 : decode cX6_pack 32 = .ok (.getfield 50, 3) := by decide +kernel
theorem dX6_pack_35 : decode cX6_pack 35 = .ok (.invokevirtual 122, 3) := by decide +kernel
theorem dX6_pack_38 : decode cX6_pack 38 = .ok (.ireturn, 1) := by decide +kernel
theorem dX6_best_0 : decode cX6_best 0 = .ok (.aload_n 0, 1) := by decide +kernel
theorem dX6_best_1 : decode cX6_best 1 = .ok (.invokevirtual 118, 3) := by decide +kernel
theorem dX6_best_4 : decode cX6_best 4 = .ok (.ifCond .eq 13, 3) := by decide +kernel
theorem dX6_best_7 : decode cX6_best 7 = .ok (.aload_n 0, 1) := by decide +kernel
theorem dX6_best_8 : decode cX6_best 8 = .ok (.getfield 26, 3) := by decide +kernel
theorem dX6_best_11 : decode cX6_best 11 = .ok (.invokevirtual 237, 3) := by decide +kernel
theorem dX6_best_14 : decode cX6_best 14 = .ok (.ifCond .eq 6, 3) := by decide +kernel
theorem dX6_best_17 : decode cX6_best 17 = .ok (.bipush (-103), 2) := by decide +kernel
theorem dX6_best_19 : decode cX6_best 19 = .ok (.ireturn, 1) := by decide +kernel
theorem dX6_best_20 : decode cX6_best 20 = .ok (.aload_n 0, 1) := by decide +kernel
theorem dX6_best_21 : decode cX6_best 21 = .ok (.getfield 26, 3) := by decide +kernel
theorem dX6_best_24 : decode cX6_best 24 = .ok (.getfield 132, 3) := by decide +kernel
theorem dX6_best_27 : decode cX6_best 27 = .ok (.bipush 8, 2) := by decide +kernel
theorem dX6_best_29 : decode cX6_best 29 = .ok (.if_icmp .gt 12, 3) := by decide +kernel
theorem dX6_best_32 : decode cX6_best 32 = .ok (.aload_n 0, 1) := by decide +kernel
theorem dX6_best_33 : decode cX6_best 33 = .ok (.getfield 244, 3) := by decide +kernel
theorem dX6_best_36 : decode cX6_best 36 = .ok (.bipush 20, 2) := by decide +kernel
theorem dX6_best_38 : decode cX6_best 38 = .ok (.if_icmp .lt 6, 3) := by decide +kernel
theorem dX6_best_41 : decode cX6_best 41 = .ok (.bipush (-103), 2) := by decide +kernel
theorem dX6_best_43 : decode cX6_best 43 = .ok (.ireturn, 1) := by decide +kernel
theorem dX6_best_44 : decode cX6_best 44 = .ok (.aload_n 0, 1) := by decide +kernel
theorem dX6_best_45 : decode cX6_best 45 = .ok (.getfield 50, 3) := by decide +kernel
theorem dX6_best_48 : decode cX6_best 48 = .ok (.aload_n 0, 1) := by decide +kernel
theorem dX6_best_49 : decode cX6_best 49 = .ok (.getfield 26, 3) := by decide +kernel
theorem dX6_best_52 : decode cX6_best 52 = .ok (.aload_n 0, 1) := by decide +kernel
theorem dX6_best_53 : decode cX6_best 53 = .ok (.getfield 26, 3) := by decide +kernel
theorem dX6_best_56 : decode cX6_best 56 = .ok (.getfield 138, 3) := by decide +kernel
theorem dX6_best_59 : decode cX6_best 59 = .ok (.aload_n 0, 1) := by decide +kernel
theorem dX6_best_60 : decode cX6_best 60 = .ok (.getfield 43, 3) := by decide +kernel
theorem dX6_best_63 : decode cX6_best 63 = .ok (.getfield 135, 3) := by decide +kernel
theorem dX6_best_66 : decode cX6_best 66 = .ok (.invokestatic 247, 3) := by decide +kernel
theorem dX6_best_69 : decode cX6_best 69 = .ok (.invokevirtual 252, 3) := by decide +kernel
theorem dX6_best_72 : decode cX6_best 72 = .ok (.aload_n 0, 1) := by decide +kernel
theorem dX6_best_73 : decode cX6_best 73 = .ok (.dup, 1) := by decide +kernel
theorem dX6_best_74 : decode cX6_best 74 = .ok (.getfield 244, 3) := by decide +kernel
theorem dX6_best_77 : decode cX6_best 77 = .ok (.iconst 1, 1) := by decide +kernel
theorem dX6_best_78 : decode cX6_best 78 = .ok (.iadd, 1) := by decide +kernel
theorem dX6_best_79 : decode cX6_best 79 = .ok (.putfield 244, 3) := by decide +kernel
theorem dX6_best_82 : decode cX6_best 82 = .ok (.aload_n 0, 1) := by decide +kernel
theorem dX6_best_83 : decode cX6_best 83 = .ok (.getfield 50, 3) := by decide +kernel
theorem dX6_best_86 : decode cX6_best 86 = .ok (.invokevirtual 122, 3) := by decide +kernel
theorem dX6_best_89 : decode cX6_best 89 = .ok (.ireturn, 1) := by decide +kernel
theorem dX6_clear_0 : decode cX6_clear 0 = .ok (.aload_n 0, 1) := by decide +kernel
theorem dX6_clear_1 : decode cX6_clear 1 = .ok (.invokevirtual 118, 3) := by decide +kernel
theorem dX6_clear_4 : decode cX6_clear 4 = .ok (.ifCond .ne 6, 3) := by decide +kernel
theorem dX6_clear_7 : decode cX6_clear 7 = .ok (.bipush (-103), 2) := by decide +kernel
theorem dX6_clear_9 : decode cX6_clear 9 = .ok (.ireturn, 1) := by decide +kernel
theorem dX6_clear_10 : decode cX6_clear 10 = .ok (.aload_n 0, 1) := by decide +kernel
theorem dX6_clear_11 : decode cX6_clear 11 = .ok (.getfield 50, 3) := by decide +kernel
theorem dX6_clear_14 : decode cX6_clear 14 = .ok (.invokevirtual 231, 3) := by decide +kernel
theorem dX6_clear_17 : decode cX6_clear 17 = .ok (.istore_n 1, 1) := by decide +kernel
theorem dX6_clear_18 : decode cX6_clear 18 = .ok (.aload_n 0, 1) := by decide +kernel
theorem dX6_clear_19 : decode cX6_clear 19 = .ok (.getfield 50, 3) := by decide +kernel
theorem dX6_clear_22 : decode cX6_clear 22 = .ok (.invokevirtual 234, 3) := by decide +kernel
theorem dX6_clear_25 : decode cX6_clear 25 = .ok (.iload_n 1, 1) := by decide +kernel
theorem dX6_clear_26 : decode cX6_clear 26 = .ok (.ireturn, 1) := by decide +kernel
theorem dX6_isNet_0 : decode cX6_isNet 0 = .ok (.iload_n 0, 1) := by decide +kernel
theorem dX6_isNet_1 : decode cX6_isNet 1 = .ok (.ifCond .lt 13, 3) := by decide +kernel
theorem dX6_isNet_4 : decode cX6_isNet 4 = .ok (.iload_n 0, 1) := by decide +kernel
theorem dX6_isNet_5 : decode cX6_isNet 5 = .ok (.bipush 6, 2) := by decide +kernel
theorem dX6_isNet_7 : decode cX6_isNet 7 = .ok (.if_icmp .ge 7, 3) := by decide +kernel
theorem dX6_isNet_10 : decode cX6_isNet 10 = .ok (.iconst 1, 1) := by decide +kernel
theorem dX6_isNet_11 : decode cX6_isNet 11 = .ok (.goto 4, 3) := by decide +kernel
theorem dX6_isNet_14 : decode cX6_isNet 14 = .ok (.iconst 0, 1) := by decide +kernel
theorem dX6_isNet_15 : decode cX6_isNet 15 = .ok (.ireturn, 1) := by decide +kernel
theorem dX6_isSplit_0 : decode cX6_isSplit 0 = .ok (.aload_n 0, 1) := by decide +kernel
theorem dX6_isSplit_1 : decode cX6_isSplit 1 = .ok (.getfield 83, 3) := by decide +kernel
theorem dX6_isSplit_4 : decode cX6_isSplit 4 = .ok (.iconst 1, 1) := by decide +kernel
theorem dX6_isSplit_5 : decode cX6_isSplit 5 = .ok (.iload_n 1, 1) := by decide +kernel
theorem dX6_isSplit_6 : decode cX6_isSplit 6 = .ok (.ishl, 1) := by decide +kernel
theorem dX6_isSplit_7 : decode cX6_isSplit 7 = .ok (.iand, 1) := by decide +kernel
theorem dX6_isSplit_8 : decode cX6_isSplit 8 = .ok (.ifCond .eq 7, 3) := by decide +kernel
theorem dX6_isSplit_11 : decode cX6_isSplit 11 = .ok (.iconst 1, 1) := by decide +kernel
theorem dX6_isSplit_12 : decode cX6_isSplit 12 = .ok (.goto 4, 3) := by decide +kernel
theorem dX6_isSplit_15 : decode cX6_isSplit 15 = .ok (.iconst 0, 1) := by decide +kernel
theorem dX6_isSplit_16 : decode cX6_isSplit 16 = .ok (.ireturn, 1) := by decide +kernel
theorem dX6_cut_0 : decode cX6_cut 0 = .ok (.aload_n 0, 1) := by decide +kernel
theorem dX6_cut_1 : decode cX6_cut 1 = .ok (.invokevirtual 118, 3) := by decide +kernel
theorem dX6_cut_4 : decode cX6_cut 4 = .ok (.ifCond .eq 10, 3) := by decide +kernel
theorem dX6_cut_7 : decode cX6_cut 7 = .ok (.iload_n 1, 1) := by decide +kernel
theorem dX6_cut_8 : decode cX6_cut 8 = .ok (.invokestatic 164, 3) := by decide +kernel
theorem dX6_cut_11 : decode cX6_cut 11 = .ok (.ifCond .ne 6, 3) := by decide +kernel
theorem dX6_cut_14 : decode cX6_cut 14 = .ok (.bipush (-101), 2) := by decide +kernel
theorem dX6_cut_16 : decode cX6_cut 16 = .ok (.ireturn, 1) := by decide +kernel
theorem dX6_cut_17 : decode cX6_cut 17 = .ok (.aload_n 0, 1) := by decide +kernel
theorem dX6_cut_18 : decode cX6_cut 18 = .ok (.iload_n 1, 1) := by decide +kernel
theorem dX6_cut_19 : decode cX6_cut 19 = .ok (.invokevirtual 179, 3) := by decide +kernel
theorem dX6_cut_22 : decode cX6_cut 22 = .ok (.iload_n 2, 1) := by decide +kernel
theorem dX6_cut_23 : decode cX6_cut 23 = .ok (.if_icmp .ne 6, 3) := by decide +kernel
theorem dX6_cut_26 : decode cX6_cut 26 = .ok (.bipush (-103), 2) := by decide +kernel
theorem dX6_cut_28 : decode cX6_cut 28 = .ok (.ireturn, 1) := by decide +kernel
theorem dX6_cut_29 : decode cX6_cut 29 = .ok (.aload_n 0, 1) := by decide +kernel
theorem dX6_cut_30 : decode cX6_cut 30 = .ok (.dup, 1) := by decide +kernel
theorem dX6_cut_31 : decode cX6_cut 31 = .ok (.getfield 83, 3) := by decide +kernel
theorem dX6_cut_34 : decode cX6_cut 34 = .ok (.iconst 1, 1) := by decide +kernel
theorem dX6_cut_35 : decode cX6_cut 35 = .ok (.iload_n 1, 1) := by decide +kernel
theorem dX6_cut_36 : decode cX6_cut 36 = .ok (.ishl, 1) := by decide +kernel
theorem dX6_cut_37 : decode cX6_cut 37 = .ok (.ixor, 1) := by decide +kernel
theorem dX6_cut_38 : decode cX6_cut 38 = .ok (.putfield 83, 3) := by decide +kernel
theorem dX6_cut_41 : decode cX6_cut 41 = .ok (.aload_n 0, 1) := by decide +kernel
theorem dX6_cut_42 : decode cX6_cut 42 = .ok (.invokevirtual 86, 3) := by decide +kernel
theorem dX6_cut_45 : decode cX6_cut 45 = .ok (.aload_n 0, 1) := by decide +kernel
theorem dX6_cut_46 : decode cX6_cut 46 = .ok (.getfield 26, 3) := by decide +kernel
theorem dX6_cut_49 : decode cX6_cut 49 = .ok (.getfield 132, 3) := by decide +kernel
theorem dX6_cut_52 : decode cX6_cut 52 = .ok (.ireturn, 1) := by decide +kernel
theorem dX6_isColumn_0 : decode cX6_isColumn 0 = .ok (.iload_n 1, 1) := by decide +kernel
theorem dX6_isColumn_1 : decode cX6_isColumn 1 = .ok (.ifCond .lt 18, 3) := by decide +kernel
theorem dX6_isColumn_4 : decode cX6_isColumn 4 = .ok (.iload_n 1, 1) := by decide +kernel
theorem dX6_isColumn_5 : decode cX6_isColumn 5 = .ok (.aload_n 0, 1) := by decide +kernel
theorem dX6_isColumn_6 : decode cX6_isColumn 6 = .ok (.getfield 19, 3) := by decide +kernel
theorem dX6_isColumn_9 : decode cX6_isColumn 9 = .ok (.getfield 72, 3) := by decide +kernel
theorem dX6_isColumn_12 : decode cX6_isColumn 12 = .ok (.if_icmp .ge 7, 3) := by decide +kernel
theorem dX6_isColumn_15 : decode cX6_isColumn 15 = .ok (.iconst 1, 1) := by decide +kernel
theorem dX6_isColumn_16 : decode cX6_isColumn 16 = .ok (.goto 4, 3) := by decide +kernel
theorem dX6_isColumn_19 : decode cX6_isColumn 19 = .ok (.iconst 0, 1) := by decide +kernel
theorem dX6_isColumn_20 : decode cX6_isColumn 20 = .ok (.ireturn, 1) := by decide +kernel
theorem dX6_turn_0 : decode cX6_turn 0 = .ok (.aload_n 0, 1) := by decide +kernel
theorem dX6_turn_1 : decode cX6_turn 1 = .ok (.iload_n 1, 1) := by decide +kernel
theorem dX6_turn_2 : decode cX6_turn 2 = .ok (.invokevirtual 154, 3) := by decide +kernel
theorem dX6_turn_5 : decode cX6_turn 5 = .ok (.ifCond .ne 6, 3) := by decide +kernel
theorem dX6_turn_8 : decode cX6_turn 8 = .ok (.bipush (-101), 2) := by decide +kernel
theorem dX6_turn_10 : decode cX6_turn 10 = .ok (.ireturn, 1) := by decide +kernel
theorem dX6_turn_11 : decode cX6_turn 11 = .ok (.aload_n 0, 1) := by decide +kernel
theorem dX6_turn_12 : decode cX6_turn 12 = .ok (.getfield 19, 3) := by decide +kernel
theorem dX6_turn_15 : decode cX6_turn 15 = .ok (.iload_n 1, 1) := by decide +kernel
