theorem dX7_within_0 : decode cX7_within 0 = .ok (.iload_n 0, 1) := by decide +kernel
theorem dX7_within_1 : decode cX7_within 1 = .ok (.iload_n 1, 1) := by decide +kernel
theorem dX7_within_2 : decode cX7_within 2 = .ok (.if_icmp .lt 12, 3) := by decide +kernel
theorem dX7_within_5 : decode cX7_within 5 = .ok (.iload_n 0, 1) := by decide +kernel
theorem dX7_within_6 : decode cX7_within 6 = .ok (.iload_n 2, 1) := by decide +kernel
theorem dX7_within_7 : decode cX7_within 7 = .ok (.if_icmp .gt 7, 3) := by decide +kernel
theorem dX7_within_10 : decode cX7_within 10 = .ok (.iconst 1, 1) := by decide +kernel
theorem dX7_within_11 : decode cX7_within 11 = .ok (.goto 4, 3) := by decide +kernel
theorem dX7_within_14 : decode cX7_within 14 = .ok (.iconst 0, 1) := by decide +kernel
theorem dX7_within_15 : decode cX7_within 15 = .ok (.ireturn, 1) := by decide +kernel
theorem dX7_isBit_0 : decode cX7_isBit 0 = .ok (.iload_n 0, 1) := by decide +kernel
theorem dX7_isBit_1 : decode cX7_isBit 1 = .ok (.iload_n 1, 1) := by decide +kernel
theorem dX7_isBit_2 : decode cX7_isBit 2 = .ok (.ishr, 1) := by decide +kernel
theorem dX7_isBit_3 : decode cX7_isBit 3 = .ok (.iconst 1, 1) := by decide +kernel
theorem dX7_isBit_4 : decode cX7_isBit 4 = .ok (.iand, 1) := by decide +kernel
theorem dX7_isBit_5 : decode cX7_isBit 5 = .ok (.iconst 1, 1) := by decide +kernel
theorem dX7_isBit_6 : decode cX7_isBit 6 = .ok (.if_icmp .ne 7, 3) := by decide +kernel
theorem dX7_isBit_9 : decode cX7_isBit 9 = .ok (.iconst 1, 1) := by decide +kernel
theorem dX7_isBit_10 : decode cX7_isBit 10 = .ok (.goto 4, 3) := by decide +kernel
theorem dX7_isBit_13 : decode cX7_isBit 13 = .ok (.iconst 0, 1) := by decide +kernel
theorem dX7_isBit_14 : decode cX7_isBit 14 = .ok (.ireturn, 1) := by decide +kernel
theorem dX7_size_0 : decode cX7_size 0 = .ok (.iconst 0, 1) := by decide +kernel
theorem dX7_size_1 : decode cX7_size 1 = .ok (.istore_n 1, 1) := by decide +kernel
theorem dX7_size_2 : decode cX7_size 2 = .ok (.iconst 0, 1) := by decide +kernel
theorem dX7_size_3 : decode cX7_size 3 = .ok (.istore_n 2, 1) := by decide +kernel
theorem dX7_size_4 : decode cX7_size 4 = .ok (.iload_n 2, 1) := by decide +kernel
theorem dX7_size_5 : decode cX7_size 5 = .ok (.bipush 16, 2) := by decide +kernel
theorem dX7_size_7 : decode cX7_size 7 = .ok (.if_icmp .ge 17, 3) := by decide +kernel
theorem dX7_size_10 : decode cX7_size 10 = .ok (.iload_n 1, 1) := by decide +kernel
theorem dX7_size_11 : decode cX7_size 11 = .ok (.iload_n 0, 1) := by decide +kernel
theorem dX7_size_12 : decode cX7_size 12 = .ok (.iload_n 2, 1) := by decide +kernel
theorem dX7_size_13 : decode cX7_size 13 = .ok (.ishr, 1) := by decide +kernel
theorem dX7_size_14 : decode cX7_size 14 = .ok (.iconst 1, 1) := by decide +kernel
theorem dX7_size_15 : decode cX7_size 15 = .ok (.iand, 1) := by decide +kernel
theorem dX7_size_16 : decode cX7_size 16 = .ok (.iadd, 1) := by decide +kernel
theorem dX7_size_17 : decode cX7_size 17 = .ok (.istore_n 1, 1) := by decide +kernel
theorem dX7_size_18 : decode cX7_size 18 = .ok (.iinc 2 1, 3) := by decide +kernel
theorem dX7_size_21 : decode cX7_size 21 = .ok (.goto (-17), 3) := by decide +kernel
theorem dX7_size_24 : decode cX7_size 24 = .ok (.iload_n 1, 1) := by decide +kernel
theorem dX7_size_25 : decode cX7_size 25 = .ok (.ireturn, 1) := by decide +kernel
theorem dX7_leastOf_0 : decode cX7_leastOf 0 = .ok (.iconst 0, 1) := by decide +kernel
theorem dX7_leastOf_1 : decode cX7_leastOf 1 = .ok (.istore_n 1, 1) := by decide +kernel
theorem dX7_leastOf_2 : decode cX7_leastOf 2 = .ok (.iload_n 1, 1) := by decide +kernel
theorem dX7_leastOf_3 : decode cX7_leastOf 3 = .ok (.bipush 16, 2) := by decide +kernel
theorem dX7_leastOf_5 : decode cX7_leastOf 5 = .ok (.if_icmp .ge 17, 3) := by decide +kernel
theorem dX7_leastOf_8 : decode cX7_leastOf 8 = .ok (.iload_n 0, 1) := by decide +kernel
theorem dX7_leastOf_9 : decode cX7_leastOf 9 = .ok (.iload_n 1, 1) := by decide +kernel
theorem dX7_leastOf_10 : decode cX7_leastOf 10 = .ok (.invokestatic 43, 3) := by decide +kernel
theorem dX7_leastOf_13 : decode cX7_leastOf 13 = .ok (.ifCond .ne 9, 3) := by decide +kernel
theorem dX7_leastOf_16 : decode cX7_leastOf 16 = .ok (.iinc 1 1, 3) := by decide +kernel
theorem dX7_leastOf_19 : decode cX7_leastOf 19 = .ok (.goto (-17), 3) := by decide +kernel
theorem dX7_leastOf_22 : decode cX7_leastOf 22 = .ok (.iload_n 1, 1) := by decide +kernel
theorem dX7_leastOf_23 : decode cX7_leastOf 23 = .ok (.bipush 16, 2) := by decide +kernel
theorem dX7_leastOf_25 : decode cX7_leastOf 25 = .ok (.if_icmp .ge 7, 3) := by decide +kernel
theorem dX7_leastOf_28 : decode cX7_leastOf 28 = .ok (.iload_n 1, 1) := by decide +kernel
theorem dX7_leastOf_29 : decode cX7_leastOf 29 = .ok (.goto 4, 3) := by decide +kernel
theorem dX7_leastOf_32 : decode cX7_leastOf 32 = .ok (.iconst (-1), 1) := by decide +kernel
theorem dX7_leastOf_33 : decode cX7_leastOf 33 = .ok (.ireturn, 1) := by decide +kernel
theorem dX7_letter_0 : decode cX7_letter 0 = .ok (.iload_n 1, 1) := by decide +kernel
theorem dX7_letter_1 : decode cX7_letter 1 = .ok (.bipush 32, 2) := by decide +kernel
theorem dX7_letter_3 : decode cX7_letter 3 = .ok (.bipush 126, 2) := by decide +kernel
theorem dX7_letter_5 : decode cX7_letter 5 = .ok (.invokestatic 47, 3) := by decide +kernel
theorem dX7_letter_8 : decode cX7_letter 8 = .ok (.ifCond .ne 6, 3) := by decide +kernel
theorem dX7_letter_11 : decode cX7_letter 11 = .ok (.bipush (-102), 2) := by decide +kernel
theorem dX7_letter_13 : decode cX7_letter 13 = .ok (.ireturn, 1) := by decide +kernel
theorem dX7_letter_14 : decode cX7_letter 14 = .ok (.aload_n 0, 1) := by decide +kernel
theorem dX7_letter_15 : decode cX7_letter 15 = .ok (.getfield 51, 3) := by decide +kernel
theorem dX7_letter_18 : decode cX7_letter 18 = .ok (.bipush 20, 2) := by decide +kernel
theorem dX7_letter_20 : decode cX7_letter 20 = .ok (.if_icmp .ne 6, 3) := by decide +kernel
theorem dX7_letter_23 : decode cX7_letter 23 = .ok (.bipush (-104), 2) := by decide +kernel
theorem dX7_letter_25 : decode cX7_letter 25 = .ok (.ireturn, 1) := by decide +kernel
theorem dX7_letter_26 : decode cX7_letter 26 = .ok (.aload_n 0, 1) := by decide +kernel
theorem dX7_letter_27 : decode cX7_letter 27 = .ok (.getfield 34, 3) := by decide +kernel
theorem dX7_letter_30 : decode cX7_letter 30 = .ok (.aload_n 0, 1) := by decide +kernel
theorem dX7_letter_31 : decode cX7_letter 31 = .ok (.getfield 51, 3) := by decide +kernel
theorem dX7_letter_34 : decode cX7_letter 34 = .ok (.iload_n 1, 1) := by decide +kernel
theorem dX7_letter_35 : decode cX7_letter 35 = .ok (.iastore, 1) := by decide +kernel
theorem dX7_letter_36 : decode cX7_letter 36 = .ok (.aload_n 0, 1) := by decide +kernel
theorem dX7_letter_37 : decode cX7_letter 37 = .ok (.dup, 1) := by decide +kernel
theorem dX7_letter_38 : decode cX7_letter 38 = .ok (.getfield 51, 3) := by decide +kernel
theorem dX7_letter_41 : decode cX7_letter 41 = .ok (.iconst 1, 1) := by decide +kernel
theorem dX7_letter_42 : decode cX7_letter 42 = .ok (.iadd, 1) := by decide +kernel
theorem dX7_letter_43 : decode cX7_letter 43 = .ok (.putfield 51, 3) := by decide +kernel
theorem dX7_letter_46 : decode cX7_letter 46 = .ok (.aload_n 0, 1) := by decide +kernel
theorem dX7_letter_47 : decode cX7_letter 47 = .ok (.getfield 51, 3) := by decide +kernel
theorem dX7_letter_50 : decode cX7_letter 50 = .ok (.ireturn, 1) := by decide +kernel
theorem dX7_blank_0 : decode cX7_blank 0 = .ok (.aload_n 0, 1) := by decide +kernel
theorem dX7_blank_1 : decode cX7_blank 1 = .ok (.getfield 51, 3) := by decide +kernel
theorem dX7_blank_4 : decode cX7_blank 4 = .ok (.istore_n 1, 1) := by decide +kernel
theorem dX7_blank_5 : decode cX7_blank 5 = .ok (.aload_n 0, 1) := by decide +kernel
theorem dX7_blank_6 : decode cX7_blank 6 = .ok (.iconst 0, 1) := by decide +kernel
theorem dX7_blank_7 : decode cX7_blank 7 = .ok (.putfield 51, 3) := by decide +kernel
theorem dX7_blank_10 : decode cX7_blank 10 = .ok (.iload_n 1, 1) := by decide +kernel
theorem dX7_blank_11 : decode cX7_blank 11 = .ok (.ireturn, 1) := by decide +kernel
theorem dX7_isPin_0 : decode cX7_isPin 0 = .ok (.iload_n 0, 1) := by decide +kernel
theorem dX7_isPin_1 : decode cX7_isPin 1 = .ok (.bipush 46, 2) := by decide +kernel
theorem dX7_isPin_3 : decode cX7_isPin 3 = .ok (.if_icmp .eq 14, 3) := by decide +kernel
theorem dX7_isPin_6 : decode cX7_isPin 6 = .ok (.iload_n 0, 1) := by decide +kernel
theorem dX7_isPin_7 : decode cX7_isPin 7 = .ok (.bipush 97, 2) := by decide +kernel
theorem dX7_isPin_9 : decode cX7_isPin 9 = .ok (.bipush 102, 2) := by decide +kernel
theorem dX7_isPin_11 : decode cX7_isPin 11 = .ok (.invokestatic 47, 3) := by decide +kernel
theorem dX7_isPin_14 : decode cX7_isPin 14 = .ok (.ifCond .eq 7, 3) := by decide +kernel
theorem dX7_isPin_17 : decode cX7_isPin 17 = .ok (.iconst 1, 1) := by decide +kernel
theorem dX7_isPin_18 : decode cX7_isPin 18 = .ok (.goto 4, 3) := by decide +kernel
theorem dX7_isPin_21 : decode cX7_isPin 21 = .ok (.iconst 0, 1) := by decide +kernel
theorem dX7_isPin_22 : decode cX7_isPin 22 = .ok (.ireturn, 1) := by decide +kernel
theorem dX7_pinsFrom_0 : decode cX7_pinsFrom 0 = .ok (.iconst 0, 1) := by decide +kernel
theorem dX7_pinsFrom_1 : decode cX7_pinsFrom 1 = .ok (.istore_n 3, 1) := by decide +kernel
theorem dX7_pinsFrom_2 : decode cX7_pinsFrom 2 = .ok (.iload_n 3, 1) := by decide +kernel
theorem dX7_pinsFrom_3 : decode cX7_pinsFrom 3 = .ok (.iload_n 2, 1) := by decide +kernel
theorem dX7_pinsFrom_4 : decode cX7_pinsFrom 4 = .ok (.if_icmp .ge 33, 3) := by decide +kernel
theorem dX7_pinsFrom_7 : decode cX7_pinsFrom 7 = .ok (.iload_n 1, 1) := by decide +kernel
theorem dX7_pinsFrom_8 : decode cX7_pinsFrom 8 = .ok (.iload_n 3, 1) := by decide +kernel
theorem dX7_pinsFrom_9 : decode cX7_pinsFrom 9 = .ok (.iadd, 1) := by decide +kernel
theorem dX7_pinsFrom_10 : decode cX7_pinsFrom 10 = .ok (.aload_n 0, 1) := by decide +kernel
theorem dX7_pinsFrom_11 : decode cX7_pinsFrom 11 = .ok (.getfield 51, 3) := by decide +kernel
theorem dX7_pinsFrom_14 : decode cX7_pinsFrom 14 = .ok (.if_icmp .ge 23, 3) := by decide +kernel
theorem dX7_pinsFrom_17 : decode cX7_pinsFrom 17 = .ok (.aload_n 0, 1) := by decide +kernel
theorem dX7_pinsFrom_18 : decode cX7_pinsFrom 18 = .ok (.getfield 34, 3) := by decide +kernel
theorem dX7_pinsFrom_21 : decode cX7_pinsFrom 21 = .ok (.iload_n 1, 1) := by decide +kernel
theorem dX7_pinsFrom_22 : decode cX7_pinsFrom 22 = .ok (.iload_n 3, 1) := by decide +kernel
theorem dX7_pinsFrom_23 : decode cX7_pinsFrom 23 = .ok (.iadd, 1) := by decide +kernel
theorem dX7_pinsFrom_24 : decode cX7_pinsFrom 24 = .ok (.iaload, 1) := by decide +kernel
theorem dX7_pinsFrom_25 : decode cX7_pinsFrom 25 = .ok (.invokestatic 55, 3) := by decide +kernel
theorem dX7_pinsFrom_28 : decode cX7_pinsFrom 28 = .ok (.ifCond .eq 9, 3) := by decide +kernel
theorem dX7_pinsFrom_31 : decode cX7_pinsFrom 31 = .ok (.iinc 3 1, 3) := by decide +kernel
theorem dX7_pinsFrom_34 : decode cX7_pinsFrom 34 = .ok (.goto (-32), 3) := by decide +kernel
theorem dX7_pinsFrom_37 : decode cX7_pinsFrom 37 = .ok (.iload_n 3, 1) := by decide +kernel
theorem dX7_pinsFrom_38 : decode cX7_pinsFrom 38 = .ok (.ireturn, 1) := by decide +kernel
theorem dX7_readChannel_0 : decode cX7_readChannel 0 = .ok (.aload_n 0, 1) := by decide +kernel
theorem dX7_readChannel_1 : decode cX7_readChannel 1 = .ok (.iconst 0, 1) := by decide +kernel
theorem dX7_readChannel_2 : decode cX7_readChannel 2 = .ok (.putfield 59, 3) := by decide +kernel
theorem dX7_readChannel_5 : decode cX7_readChannel 5 = .ok (.aload_n 0, 1) := by decide +kernel
theorem dX7_readChannel_6 : decode cX7_readChannel 6 = .ok (.aload_n 0, 1) := by decide +kernel
theorem dX7_readChannel_7 : decode cX7_readChannel 7 = .ok (.iconst 0, 1) := by decide +kernel
theorem dX7_readChannel_8 : decode cX7_readChannel 8 = .ok (.bipush 8, 2) := by decide +kernel
theorem dX7_readChannel_10 : decode cX7_readChannel 10 = .ok (.invokevirtual 63, 3) := by decide +kernel
theorem dX7_readChannel_13 : decode cX7_readChannel 13 = .ok (.putfield 67, 3) := by decide +kernel
theorem dX7_readChannel_16 : decode cX7_readChannel 16 = .ok (.aload_n 0, 1) := by decide +kernel
theorem dX7_readChannel_17 : decode cX7_readChannel 17 = .ok (.getfield 67, 3) := by decide +kernel
theorem dX7_readChannel_20 : decode cX7_readChannel 20 = .ok (.iconst 2, 1) := by decide +kernel
theorem dX7_readChannel_21 : decode cX7_readChannel 21 = .ok (.if_icmp .lt 28, 3) := by decide +kernel
theorem dX7_readChannel_24 : decode cX7_readChannel 24 = .ok (.aload_n 0, 1) := by decide +kernel
theorem dX7_readChannel_25 : decode cX7_readChannel 25 = .ok (.getfield 67, 3) := by decide +kernel
theorem dX7_readChannel_28 : decode cX7_readChannel 28 = .ok (.aload_n 0, 1) := by decide +kernel
theorem dX7_readChannel_29 : decode cX7_readChannel 29 = .ok (.getfield 51, 3) := by decide +kernel
theorem dX7_readChannel_32 : decode cX7_readChannel 32 = .ok (.if_icmp .eq 17, 3) := by decide +kernel
theorem dX7_readChannel_35 : decode cX7_readChannel 35 = .ok (.aload_n 0, 1) := by decide +kernel
theorem dX7_readChannel_36 : decode cX7_readChannel 36 = .ok (.getfield 34, 3) := by decide +kernel
theorem dX7_readChannel_39 : decode cX7_readChannel 39 = .ok (.aload_n 0, 1) := by decide +kernel
theorem dX7_readChannel_40 : decode cX7_readChannel 40 = .ok (.getfield 67, 3) := by decide +kernel
theorem dX7_readChannel_43 : decode cX7_readChannel 43 = .ok (.iaload, 1) := by decide +kernel
theorem dX7_readChannel_44 : decode cX7_readChannel 44 = .ok (.bipush 47, 2) := by decide +kernel
theorem dX7_readChannel_46 : decode cX7_readChannel 46 = .ok (.if_icmp .eq 8, 3) := by decide +kernel
theorem dX7_readChannel_49 : decode cX7_readChannel 49 = .ok (.aload_n 0, 1) := by decide +kernel
theorem dX7_readChannel_50 : decode cX7_readChannel 50 = .ok (.getfield 67, 3) := by decide +kernel
theorem dX7_readChannel_53 : decode cX7_readChannel 53 = .ok (.ireturn, 1) := by decide +kernel
theorem dX7_readChannel_54 : decode cX7_readChannel 54 = .ok (.aload_n 0, 1) := by decide +kernel
theorem dX7_readChannel_55 : decode cX7_readChannel 55 = .ok (.aload_n 0, 1) := by decide +kernel
theorem dX7_readChannel_56 : decode cX7_readChannel 56 = .ok (.getfield 67, 3) := by decide +kernel
theorem dX7_readChannel_59 : decode cX7_readChannel 59 = .ok (.iconst 1, 1) := by decide +kernel
theorem dX7_readChannel_60 : decode cX7_readChannel 60 = .ok (.iadd, 1) := by decide +kernel
theorem dX7_readChannel_61 : decode cX7_readChannel 61 = .ok (.aload_n 0, 1) := by decide +kernel
theorem dX7_readChannel_62 : decode cX7_readChannel 62 = .ok (.getfield 67, 3) := by decide +kernel
theorem dX7_readChannel_65 : decode cX7_readChannel 65 = .ok (.invokevirtual 63, 3) := by decide +kernel
theorem dX7_readChannel_68 : decode cX7_readChannel 68 = .ok (.istore_n 1, 1) := by decide +kernel
theorem dX7_readChannel_69 : decode cX7_readChannel 69 = .ok (.aload_n 0, 1) := by decide +kernel
theorem dX7_readChannel_70 : decode cX7_readChannel 70 = .ok (.getfield 67, 3) := by decide +kernel
theorem dX7_readChannel_73 : decode cX7_readChannel 73 = .ok (.iconst 1, 1) := by decide +kernel
theorem dX7_readChannel_74 : decode cX7_readChannel 74 = .ok (.iadd, 1) := by decide +kernel
theorem dX7_readChannel_75 : decode cX7_readChannel 75 = .ok (.iload_n 1, 1) := by decide +kernel
theorem dX7_readChannel_76 : decode cX7_readChannel 76 = .ok (.iadd, 1) := by decide +kernel
theorem dX7_readChannel_77 : decode cX7_readChannel 77 = .ok (.istore_n 2, 1) := by decide +kernel
theorem dX7_readChannel_78 : decode cX7_readChannel 78 = .ok (.aload_n 0, 1) := by decide +kernel
theorem dX7_readChannel_79 : decode cX7_readChannel 79 = .ok (.iload_n 1, 1) := by decide +kernel
theorem dX7_readChannel_80 : decode cX7_readChannel 80 = .ok (.aload_n 0, 1) := by decide +kernel
theorem dX7_readChannel_81 : decode cX7_readChannel 81 = .ok (.getfield 67, 3) := by decide +kernel
theorem dX7_readChannel_84 : decode cX7_readChannel 84 = .ok (.if_icmp .ne 15, 3) := by decide +kernel
theorem dX7_readChannel_87 : decode cX7_readChannel 87 = .ok (.iload_n 2, 1) := by decide +kernel
theorem dX7_readChannel_88 : decode cX7_readChannel 88 = .ok (.aload_n 0, 1) := by decide +kernel
theorem dX7_readChannel_89 : decode cX7_readChannel 89 = .ok (.getfield 51, 3) := by decide +kernel
theorem dX7_readChannel_92 : decode cX7_readChannel 92 = .ok (.if_icmp .ne 7, 3) := by decide +kernel
theorem dX7_readChannel_95 : decode cX7_readChannel 95 = .ok (.iconst 1, 1) := by decide +kernel
theorem dX7_readChannel_96 : decode cX7_readChannel 96 = .ok (.goto 4, 3) := by decide +kernel
theorem dX7_readChannel_99 : decode cX7_readChannel 99 = .ok (.iconst 0, 1) := by decide +kernel
theorem dX7_readChannel_100 : decode cX7_readChannel 100 = .ok (.putfield 59, 3) := by decide +kernel
theorem dX7_readChannel_103 : decode cX7_readChannel 103 = .ok (.iload_n 2, 1) := by decide +kernel
theorem dX7_readChannel_104 : decode cX7_readChannel 104 = .ok (.ireturn, 1) := by decide +kernel
theorem dX7_sayingAt_0 : decode cX7_sayingAt 0 = .ok (.iload_n 0, 1) := by decide +kernel
theorem dX7_sayingAt_1 : decode cX7_sayingAt 1 = .ok (.tableswitch 289 0 4 #[35, 76, 117, 168, 218], 35) := by decide +kernel
theorem dX7_sayingAt_36 : decode cX7_sayingAt 36 = .ok (.iload_n 1, 1) := by decide +kernel
theorem dX7_sayingAt_37 : decode cX7_sayingAt 37 = .ok (.ifCond .ne 8, 3) := by decide +kernel
theorem dX7_sayingAt_40 : decode cX7_sayingAt 40 = .ok (.bipush 112, 2) := by decide +kernel
theorem dX7_sayingAt_42 : decode cX7_sayingAt 42 = .ok (.goto 34, 3) := by decide +kernel
theorem dX7_sayingAt_45 : decode cX7_sayingAt 45 = .ok (.iload_n 1, 1) := by decide +kernel
theorem dX7_sayingAt_46 : decode cX7_sayingAt 46 = .ok (.iconst 1, 1) := by decide +kernel
theorem dX7_sayingAt_47 : decode cX7_sayingAt 47 = .ok (.if_icmp .ne 8, 3) := by decide +kernel
theorem dX7_sayingAt_50 : decode cX7_sayingAt 50 = .ok (.bipush 97, 2) := by decide +kernel
theorem dX7_sayingAt_52 : decode cX7_sayingAt 52 = .ok (.goto 24, 3) := by decide +kernel
theorem dX7_sayingAt_55 : decode cX7_sayingAt 55 = .ok (.iload_n 1, 1) := by decide +kernel
theorem dX7_sayingAt_56 : decode cX7_sayingAt 56 = .ok (.iconst 2, 1) := by decide +kernel
theorem dX7_sayingAt_57 : decode cX7_sayingAt 57 = .ok (.if_icmp .ne 8, 3) := by decide +kernel
theorem dX7_sayingAt_60 : decode cX7_sayingAt 60 = .ok (.bipush 99, 2) := by decide +kernel
theorem dX7_sayingAt_62 : decode cX7_sayingAt 62 = .ok (.goto 14, 3) := by decide +kernel
theorem dX7_sayingAt_65 : decode cX7_sayingAt 65 = .ok (.iload_n 1, 1) := by decide +kernel
theorem dX7_sayingAt_66 : decode cX7_sayingAt 66 = .ok (.iconst 3, 1) := by decide +kernel
theorem dX7_sayingAt_67 : decode cX7_sayingAt 67 = .ok (.if_icmp .ne 8, 3) := by decide +kernel
theorem dX7_sayingAt_70 : decode cX7_sayingAt 70 = .ok (.bipush 107, 2) := by decide +kernel
theorem dX7_sayingAt_72 : decode cX7_sayingAt 72 = .ok (.goto 4, 3) := by decide +kernel
theorem dX7_sayingAt_75 : decode cX7_sayingAt 75 = .ok (.iconst 0, 1) := by decide +kernel
theorem dX7_sayingAt_76 : decode cX7_sayingAt 76 = .ok (.ireturn, 1) := by decide +kernel
theorem dX7_sayingAt_77 : decode cX7_sayingAt 77 = .ok (.iload_n 1, 1) := by decide +kernel
theorem dX7_sayingAt_78 : decode cX7_sayingAt 78 = .ok (.ifCond .ne 8, 3) := by decide +kernel
theorem dX7_sayingAt_81 : decode cX7_sayingAt 81 = .ok (.bipush 98, 2) := by decide +kernel
theorem dX7_sayingAt_83 : decode cX7_sayingAt 83 = .ok (.goto 34, 3) := by decide +kernel
theorem dX7_sayingAt_86 : decode cX7_sayingAt 86 = .ok (.iload_n 1, 1) := by decide +kernel
theorem dX7_sayingAt_87 : decode cX7_sayingAt 87 = .ok (.iconst 1, 1) := by decide +kernel
theorem dX7_sayingAt_88 : decode cX7_sayingAt 88 = .ok (.if_icmp .ne 8, 3) := by decide +kernel
theorem dX7_sayingAt_91 : decode cX7_sayingAt 91 = .ok (.bipush 101, 2) := by decide +kernel
theorem dX7_sayingAt_93 : decode cX7_sayingAt 93 = .ok (.goto 24, 3) := by decide +kernel
theorem dX7_sayingAt_96 : decode cX7_sayingAt 96 = .ok (.iload_n 1, 1) := by decide +kernel
theorem dX7_sayingAt_97 : decode cX7_sayingAt 97 = .ok (.iconst 2, 1) := by decide +kernel
theorem dX7_sayingAt_98 : decode cX7_sayingAt 98 = .ok (.if_icmp .ne 8, 3) := by decide +kernel
theorem dX7_sayingAt_101 : decode cX7_sayingAt 101 = .ok (.bipush 115, 2) := by decide +kernel
theorem dX7_sayingAt_103 : decode cX7_sayingAt 103 = .ok (.goto 14, 3) := by decide +kernel
theorem dX7_sayingAt_106 : decode cX7_sayingAt 106 = .ok (.iload_n 1, 1) := by decide +kernel
theorem dX7_sayingAt_107 : decode cX7_sayingAt 107 = .ok (.iconst 3, 1) := by decide +kernel
theorem dX7_sayingAt_108 : decode cX7_sayingAt 108 = .ok (.if_icmp .ne 8, 3) := by decide +kernel
theorem dX7_sayingAt_111 : decode cX7_sayingAt 111 = .ok (.bipush 116, 2) := by decide +kernel
theorem dX7_sayingAt_113 : decode cX7_sayingAt 113 = .ok (.goto 4, 3) := by decide +kernel
theorem dX7_sayingAt_116 : decode cX7_sayingAt 116 = .ok (.iconst 0, 1) := by decide +kernel
theorem dX7_sayingAt_117 : decode cX7_sayingAt 117 = .ok (.ireturn, 1) := by decide +kernel
theorem dX7_sayingAt_118 : decode cX7_sayingAt 118 = .ok (.iload_n 1, 1) := by decide +kernel
theorem dX7_sayingAt_119 : decode cX7_sayingAt 119 = .ok (.ifCond .ne 8, 3) := by decide +kernel
theorem dX7_sayingAt_122 : decode cX7_sayingAt 122 = .ok (.bipush 99, 2) := by decide +kernel
theorem dX7_sayingAt_124 : decode cX7_sayingAt 124 = .ok (.goto 44, 3) := by decide +kernel
theorem dX7_sayingAt_127 : decode cX7_sayingAt 127 = .ok (.iload_n 1, 1) := by decide +kernel
theorem dX7_sayingAt_128 : decode cX7_sayingAt 128 = .ok (.iconst 1, 1) := by decide +kernel
theorem dX7_sayingAt_129 : decode cX7_sayingAt 129 = .ok (.if_icmp .ne 8, 3) := by decide +kernel
theorem dX7_sayingAt_132 : decode cX7_sayingAt 132 = .ok (.bipush 108, 2) := by decide +kernel
theorem dX7_sayingAt_134 : decode cX7_sayingAt 134 = .ok (.goto 34, 3) := by decide +kernel
theorem dX7_sayingAt_137 : decode cX7_sayingAt 137 = .ok (.iload_n 1, 1) := by decide +kernel
theorem dX7_sayingAt_138 : decode cX7_sayingAt 138 = .ok (.iconst 2, 1) := by decide +kernel
theorem dX7_sayingAt_139 : decode cX7_sayingAt 139 = .ok (.if_icmp .ne 8, 3) := by decide +kernel
theorem dX7_sayingAt_142 : decode cX7_sayingAt 142 = .ok (.bipush 101, 2) := by decide +kernel
theorem dX7_sayingAt_144 : decode cX7_sayingAt 144 = .ok (.goto 24, 3) := by decide +kernel
theorem dX7_sayingAt_147 : decode cX7_sayingAt 147 = .ok (.iload_n 1, 1) := by decide +kernel
theorem dX7_sayingAt_148 : decode cX7_sayingAt 148 = .ok (.iconst 3, 1) := by decide +kernel
theorem dX7_sayingAt_149 : decode cX7_sayingAt 149 = .ok (.if_icmp .ne 8, 3) := by decide +kernel
theorem dX7_sayingAt_152 : decode cX7_sayingAt 152 = .ok (.bipush 97, 2) := by decide +kernel
theorem dX7_sayingAt_154 : decode cX7_sayingAt 154 = .ok (.goto 14, 3) := by decide +kernel
theorem dX7_sayingAt_157 : decode cX7_sayingAt 157 = .ok (.iload_n 1, 1) := by decide +kernel
theorem dX7_sayingAt_158 : decode cX7_sayingAt 158 = .ok (.iconst 4, 1) := by decide +kernel
theorem dX7_sayingAt_159 : decode cX7_sayingAt 159 = .ok (.if_icmp .ne 8, 3) := by decide +kernel
theorem dX7_sayingAt_162 : decode cX7_sayingAt 162 = .ok (.bipush 114, 2) := by decide +kernel
theorem dX7_sayingAt_164 : decode cX7_sayingAt 164 = .ok (.goto 4, 3) := by decide +kernel
theorem dX7_sayingAt_167 : decode cX7_sayingAt 167 = .ok (.iconst 0, 1) := by decide +kernel
theorem dX7_sayingAt_168 : decode cX7_sayingAt 168 = .ok (.ireturn, 1) := by decide +kernel
theorem dX7_sayingAt_169 : decode cX7_sayingAt 169 = .ok (.iload_n 1, 1) := by decide +kernel
theorem dX7_sayingAt_170 : decode cX7_sayingAt 170 = .ok (.ifCond .ne 8, 3) := by decide +kernel
theorem dX7_sayingAt_173 : decode cX7_sayingAt 173 = .ok (.bipush 99, 2) := by decide +kernel
theorem dX7_sayingAt_175 : decode cX7_sayingAt 175 = .ok (.goto 43, 3) := by decide +kernel
theorem dX7_sayingAt_178 : decode cX7_sayingAt 178 = .ok (.iload_n 1, 1) := by decide +kernel
theorem dX7_sayingAt_179 : decode cX7_sayingAt 179 = .ok (.iconst 1, 1) := by decide +kernel
theorem dX7_sayingAt_180 : decode cX7_sayingAt 180 = .ok (.if_icmp .ne 8, 3) := by decide +kernel
theorem dX7_sayingAt_183 : decode cX7_sayingAt 183 = .ok (.bipush 117, 2) := by decide +kernel
theorem dX7_sayingAt_185 : decode cX7_sayingAt 185 = .ok (.goto 33, 3) := by decide +kernel
theorem dX7_sayingAt_188 : decode cX7_sayingAt 188 = .ok (.iload_n 1, 1) := by decide +kernel
theorem dX7_sayingAt_189 : decode cX7_sayingAt 189 = .ok (.iconst 2, 1) := by decide +kernel
theorem dX7_sayingAt_190 : decode cX7_sayingAt 190 = .ok (.if_icmp .ne 8, 3) := by decide +kernel
theorem dX7_sayingAt_193 : decode cX7_sayingAt 193 = .ok (.bipush 116, 2) := by decide +kernel
theorem dX7_sayingAt_195 : decode cX7_sayingAt 195 = .ok (.goto 23, 3) := by decide +kernel
theorem dX7_sayingAt_198 : decode cX7_sayingAt 198 = .ok (.iload_n 1, 1) := by decide +kernel
theorem dX7_sayingAt_199 : decode cX7_sayingAt 199 = .ok (.iconst 3, 1) := by decide +kernel
theorem dX7_sayingAt_200 : decode cX7_sayingAt 200 = .ok (.if_icmp .ne 8, 3) := by decide +kernel
theorem dX7_sayingAt_203 : decode cX7_sayingAt 203 = .ok (.bipush 32, 2) := by decide +kernel
theorem dX7_sayingAt_205 : decode cX7_sayingAt 205 = .ok (.goto 13, 3) := by decide +kernel
theorem dX7_sayingAt_208 : decode cX7_sayingAt 208 = .ok (.iload_n 1, 1) := by decide +kernel
theorem dX7_sayingAt_209 : decode cX7_sayingAt 209 = .ok (.iconst 4, 1) := by decide +kernel
theorem dX7_sayingAt_210 : decode cX7_sayingAt 210 = .ok (.if_icmp .ne 7, 3) := by decide +kernel
theorem dX7_sayingAt_213 : decode cX7_sayingAt 213 = .ok (.iconst 1, 1) := by decide +kernel
theorem dX7_sayingAt_214 : decode cX7_sayingAt 214 = .ok (.goto 4, 3) := by decide +kernel
theorem dX7_sayingAt_217 : decode cX7_sayingAt 217 = .ok (.iconst 0, 1) := by decide +kernel
theorem dX7_sayingAt_218 : decode cX7_sayingAt 218 = .ok (.ireturn, 1) := by decide +kernel
theorem dX7_sayingAt_219 : decode cX7_sayingAt 219 = .ok (.iload_n 1, 1) := by decide +kernel
theorem dX7_sayingAt_220 : decode cX7_sayingAt 220 = .ok (.ifCond .ne 8, 3) := by decide +kernel
theorem dX7_sayingAt_223 : decode cX7_sayingAt 223 = .ok (.bipush 119, 2) := by decide +kernel
theorem dX7_sayingAt_225 : decode cX7_sayingAt 225 = .ok (.goto 64, 3) := by decide +kernel
theorem dX7_sayingAt_228 : decode cX7_sayingAt 228 = .ok (.iload_n 1, 1) := by decide +kernel
theorem dX7_sayingAt_229 : decode cX7_sayingAt 229 = .ok (.iconst 1, 1) := by decide +kernel
theorem dX7_sayingAt_230 : decode cX7_sayingAt 230 = .ok (.if_icmp .ne 8, 3) := by decide +kernel
theorem dX7_sayingAt_233 : decode cX7_sayingAt 233 = .ok (.bipush 104, 2) := by decide +kernel
theorem dX7_sayingAt_235 : decode cX7_sayingAt 235 = .ok (.goto 54, 3) := by decide +kernel
theorem dX7_sayingAt_238 : decode cX7_sayingAt 238 = .ok (.iload_n 1, 1) := by decide +kernel
theorem dX7_sayingAt_239 : decode cX7_sayingAt 239 = .ok (.iconst 2, 1) := by decide +kernel
theorem dX7_sayingAt_240 : decode cX7_sayingAt 240 = .ok (.if_icmp .ne 8, 3) := by decide +kernel
theorem dX7_sayingAt_243 : decode cX7_sayingAt 243 = .ok (.bipush 111, 2) := by decide +kernel
theorem dX7_sayingAt_245 : decode cX7_sayingAt 245 = .ok (.goto 44, 3) := by decide +kernel
theorem dX7_sayingAt_248 : decode cX7_sayingAt 248 = .ok (.iload_n 1, 1) := by decide +kernel
theorem dX7_sayingAt_249 : decode cX7_sayingAt 249 = .ok (.iconst 3, 1) := by decide +kernel
theorem dX7_sayingAt_250 : decode cX7_sayingAt 250 = .ok (.if_icmp .ne 8, 3) := by decide +kernel
theorem dX7_sayingAt_253 : decode cX7_sayingAt 253 = .ok (.bipush 108, 2) := by decide +kernel
theorem dX7_sayingAt_255 : decode cX7_sayingAt 255 = .ok (.goto 34, 3) := by decide +kernel
theorem dX7_sayingAt_258 : decode cX7_sayingAt 258 = .ok (.iload_n 1, 1) := by decide +kernel
theorem dX7_sayingAt_259 : decode cX7_sayingAt 259 = .ok (.iconst 4, 1) := by decide +kernel
theorem dX7_sayingAt_260 : decode cX7_sayingAt 260 = .ok (.if_icmp .ne 8, 3) := by decide +kernel
theorem dX7_sayingAt_263 : decode cX7_sayingAt 263 = .ok (.bipush 101, 2) := by decide +kernel
theorem dX7_sayingAt_265 : decode cX7_sayingAt 265 = .ok (.goto 24, 3) := by decide +kernel
theorem dX7_sayingAt_268 : decode cX7_sayingAt 268 = .ok (.iload_n 1, 1) := by decide +kernel
theorem dX7_sayingAt_269 : decode cX7_sayingAt 269 = .ok (.iconst 5, 1) := by decide +kernel
theorem dX7_sayingAt_270 : decode cX7_sayingAt 270 = .ok (.if_icmp .ne 8, 3) := by decide +kernel
theorem dX7_sayingAt_273 : decode cX7_sayingAt 273 = .ok (.bipush 32, 2) := by decide +kernel
theorem dX7_sayingAt_275 : decode cX7_sayingAt 275 = .ok (.goto 14, 3) := by decide +kernel
theorem dX7_sayingAt_278 : decode cX7_sayingAt 278 = .ok (.iload_n 1, 1) := by decide +kernel
theorem dX7_sayingAt_279 : decode cX7_sayingAt 279 = .ok (.bipush 6, 2) := by decide +kernel
theorem dX7_sayingAt_281 : decode cX7_sayingAt 281 = .ok (.if_icmp .ne 7, 3) := by decide +kernel
theorem dX7_sayingAt_284 : decode cX7_sayingAt 284 = .ok (.iconst 1, 1) := by decide +kernel
theorem dX7_sayingAt_285 : decode cX7_sayingAt 285 = .ok (.goto 4, 3) := by decide +kernel
theorem dX7_sayingAt_288 : decode cX7_sayingAt 288 = .ok (.iconst 0, 1) := by decide +kernel
theorem dX7_sayingAt_289 : decode cX7_sayingAt 289 = .ok (.ireturn, 1) := by decide +kernel
theorem dX7_sayingAt_290 : decode cX7_sayingAt 290 = .ok (.iload_n 1, 1) := by decide +kernel
theorem dX7_sayingAt_291 : decode cX7_sayingAt 291 = .ok (.ifCond .ne 8, 3) := by decide +kernel
theorem dX7_sayingAt_294 : decode cX7_sayingAt 294 = .ok (.bipush 116, 2) := by decide +kernel
theorem dX7_sayingAt_296 : decode cX7_sayingAt 296 = .ok (.goto 53, 3) := by decide +kernel
theorem dX7_sayingAt_299 : decode cX7_sayingAt 299 = .ok (.iload_n 1, 1) := by decide +kernel
theorem dX7_sayingAt_300 : decode cX7_sayingAt 300 = .ok (.iconst 1, 1) := by decide +kernel
theorem dX7_sayingAt_301 : decode cX7_sayingAt 301 = .ok (.if_icmp .ne 8, 3) := by decide +kernel
theorem dX7_sayingAt_304 : decode cX7_sayingAt 304 = .ok (.bipush 117, 2) := by decide +kernel
theorem dX7_sayingAt_306 : decode cX7_sayingAt 306 = .ok (.goto 43, 3) := by decide +kernel
theorem dX7_sayingAt_309 : decode cX7_sayingAt 309 = .ok (.iload_n 1, 1) := by decide +kernel
theorem dX7_sayingAt_310 : decode cX7_sayingAt 310 = .ok (.iconst 2, 1) := by decide +kernel
theorem dX7_sayingAt_311 : decode cX7_sayingAt 311 = .ok (.if_icmp .ne 8, 3) := by decide +kernel
theorem dX7_sayingAt_314 : decode cX7_sayingAt 314 = .ok (.bipush 114, 2) := by decide +kernel
theorem dX7_sayingAt_316 : decode cX7_sayingAt 316 = .ok (.goto 33, 3) := by decide +kernel
theorem dX7_sayingAt_319 : decode cX7_sayingAt 319 = .ok (.iload_n 1, 1) := by decide +kernel
theorem dX7_sayingAt_320 : decode cX7_sayingAt 320 = .ok (.iconst 3, 1) := by decide +kernel
theorem dX7_sayingAt_321 : decode cX7_sayingAt 321 = .ok (.if_icmp .ne 8, 3) := by decide +kernel
theorem dX7_sayingAt_324 : decode cX7_sayingAt 324 = .ok (.bipush 110, 2) := by decide +kernel
theorem dX7_sayingAt_326 : decode cX7_sayingAt 326 = .ok (.goto 23, 3) := by decide +kernel
theorem dX7_sayingAt_329 : decode cX7_sayingAt 329 = .ok (.iload_n 1, 1) := by decide +kernel
theorem dX7_sayingAt_330 : decode cX7_sayingAt 330 = .ok (.iconst 4, 1) := by decide +kernel
theorem dX7_sayingAt_331 : decode cX7_sayingAt 331 = .ok (.if_icmp .ne 8, 3) := by decide +kernel
theorem dX7_sayingAt_334 : decode cX7_sayingAt 334 = .ok (.bipush 32, 2) := by decide +kernel
theorem dX7_sayingAt_336 : decode cX7_sayingAt 336 = .ok (.goto 13, 3) := by decide +kernel
theorem dX7_sayingAt_339 : decode cX7_sayingAt 339 = .ok (.iload_n 1, 1) := by decide +kernel
theorem dX7_sayingAt_340 : decode cX7_sayingAt 340 = .ok (.iconst 5, 1) := by decide +kernel
theorem dX7_sayingAt_341 : decode cX7_sayingAt 341 = .ok (.if_icmp .ne 7, 3) := by decide +kernel
theorem dX7_sayingAt_344 : decode cX7_sayingAt 344 = .ok (.iconst 2, 1) := by decide +kernel
theorem dX7_sayingAt_345 : decode cX7_sayingAt 345 = .ok (.goto 4, 3) := by decide +kernel
theorem dX7_sayingAt_348 : decode cX7_sayingAt 348 = .ok (.iconst 0, 1) := by decide +kernel
theorem dX7_sayingAt_349 : decode cX7_sayingAt 349 = .ok (.ireturn, 1) := by decide +kernel
theorem dX7_isAs_0 : decode cX7_isAs 0 = .ok (.iload_n 0, 1) := by decide +kernel
theorem dX7_isAs_1 : decode cX7_isAs 1 = .ok (.iconst 1, 1) := by decide +kernel
theorem dX7_isAs_2 : decode cX7_isAs 2 = .ok (.if_icmp .ne 12, 3) := by decide +kernel
theorem dX7_isAs_5 : decode cX7_isAs 5 = .ok (.iload_n 1, 1) := by decide +kernel
theorem dX7_isAs_6 : decode cX7_isAs 6 = .ok (.bipush 97, 2) := by decide +kernel
theorem dX7_isAs_8 : decode cX7_isAs 8 = .ok (.bipush 102, 2) := by decide +kernel
theorem dX7_isAs_10 : decode cX7_isAs 10 = .ok (.invokestatic 47, 3) := by decide +kernel
theorem dX7_isAs_13 : decode cX7_isAs 13 = .ok (.ireturn, 1) := by decide +kernel
theorem dX7_isAs_14 : decode cX7_isAs 14 = .ok (.iload_n 0, 1) := by decide +kernel
theorem dX7_isAs_15 : decode cX7_isAs 15 = .ok (.iconst 2, 1) := by decide +kernel
theorem dX7_isAs_16 : decode cX7_isAs 16 = .ok (.if_icmp .ne 14, 3) := by decide +kernel
theorem dX7_isAs_19 : decode cX7_isAs 19 = .ok (.iload_n 1, 1) := by decide +kernel
theorem dX7_isAs_20 : decode cX7_isAs 20 = .ok (.bipush 48, 2) := by decide +kernel
theorem dX7_isAs_22 : decode cX7_isAs 22 = .ok (.bipush 57, 2) := by decide +kernel
theorem dX7_isAs_24 : decode cX7_isAs 24 = .ok (.invokestatic 47, 3) := by decide +kernel
theorem dX7_isAs_27 : decode cX7_isAs 27 = .ok (.goto 17, 3) := by decide +kernel
theorem dX7_isAs_30 : decode cX7_isAs 30 = .ok (.iload_n 0, 1) := by decide +kernel
theorem dX7_isAs_31 : decode cX7_isAs 31 = .ok (.ifCond .eq 12, 3) := by decide +kernel
theorem dX7_isAs_34 : decode cX7_isAs 34 = .ok (.iload_n 0, 1) := by decide +kernel
theorem dX7_isAs_35 : decode cX7_isAs 35 = .ok (.iload_n 1, 1) := by decide +kernel
theorem dX7_isAs_36 : decode cX7_isAs 36 = .ok (.if_icmp .ne 7, 3) := by decide +kernel
theorem dX7_isAs_39 : decode cX7_isAs 39 = .ok (.iconst 1, 1) := by decide +kernel
theorem dX7_isAs_40 : decode cX7_isAs 40 = .ok (.goto 4, 3) := by decide +kernel
theorem dX7_isAs_43 : decode cX7_isAs 43 = .ok (.iconst 0, 1) := by decide +kernel
theorem dX7_isAs_44 : decode cX7_isAs 44 = .ok (.ireturn, 1) := by decide +kernel
theorem dX7_likeSaying_0 : decode cX7_likeSaying 0 = .ok (.iconst 0, 1) := by decide +kernel
theorem dX7_likeSaying_1 : decode cX7_likeSaying 1 = .ok (.istore_n 2, 1) := by decide +kernel
theorem dX7_likeSaying_2 : decode cX7_likeSaying 2 = .ok (.iload_n 2, 1) := by decide +kernel
theorem dX7_likeSaying_3 : decode cX7_likeSaying 3 = .ok (.aload_n 0, 1) := by decide +kernel
theorem dX7_likeSaying_4 : decode cX7_likeSaying 4 = .ok (.getfield 51, 3) := by decide +kernel
theorem dX7_likeSaying_7 : decode cX7_likeSaying 7 = .ok (.if_icmp .ge 26, 3) := by decide +kernel
theorem dX7_likeSaying_10 : decode cX7_likeSaying 10 = .ok (.iload_n 1, 1) := by decide +kernel
theorem dX7_likeSaying_11 : decode cX7_likeSaying 11 = .ok (.iload_n 2, 1) := by decide +kernel
theorem dX7_likeSaying_12 : decode cX7_likeSaying 12 = .ok (.invokestatic 70, 3) := by decide +kernel
theorem dX7_likeSaying_15 : decode cX7_likeSaying 15 = .ok (.aload_n 0, 1) := by decide +kernel
theorem dX7_likeSaying_16 : decode cX7_likeSaying 16 = .ok (.getfield 34, 3) := by decide +kernel
theorem dX7_likeSaying_19 : decode cX7_likeSaying 19 = .ok (.iload_n 2, 1) := by decide +kernel
theorem dX7_likeSaying_20 : decode cX7_likeSaying 20 = .ok (.iaload, 1) := by decide +kernel
theorem dX7_likeSaying_21 : decode cX7_likeSaying 21 = .ok (.invokestatic 73, 3) := by decide +kernel
theorem dX7_likeSaying_24 : decode cX7_likeSaying 24 = .ok (.ifCond .eq 9, 3) := by decide +kernel
theorem dX7_likeSaying_27 : decode cX7_likeSaying 27 = .ok (.iinc 2 1, 3) := by decide +kernel
theorem dX7_likeSaying_30 : decode cX7_likeSaying 30 = .ok (.goto (-28), 3) := by decide +kernel
theorem dX7_likeSaying_33 : decode cX7_likeSaying 33 = .ok (.iload_n 2, 1) := by decide +kernel
theorem dX7_likeSaying_34 : decode cX7_likeSaying 34 = .ok (.ireturn, 1) := by decide +kernel
theorem dX7_readSaying_0 : decode cX7_readSaying 0 = .ok (.iconst 0, 1) := by decide +kernel
theorem dX7_readSaying_1 : decode cX7_readSaying 1 = .ok (.istore_n 1, 1) := by decide +kernel
theorem dX7_readSaying_2 : decode cX7_readSaying 2 = .ok (.iconst 0, 1) := by decide +kernel
theorem dX7_readSaying_3 : decode cX7_readSaying 3 = .ok (.istore_n 2, 1) := by decide +kernel
theorem dX7_readSaying_4 : decode cX7_readSaying 4 = .ok (.iload_n 2, 1) := by decide +kernel
theorem dX7_readSaying_5 : decode cX7_readSaying 5 = .ok (.bipush 6, 2) := by decide +kernel
theorem dX7_readSaying_7 : decode cX7_readSaying 7 = .ok (.if_icmp .ge 26, 3) := by decide +kernel
theorem dX7_readSaying_10 : decode cX7_readSaying 10 = .ok (.aload_n 0, 1) := by decide +kernel
theorem dX7_readSaying_11 : decode cX7_readSaying 11 = .ok (.iload_n 2, 1) := by decide +kernel
theorem dX7_readSaying_12 : decode cX7_readSaying 12 = .ok (.invokevirtual 76, 3) := by decide +kernel
theorem dX7_readSaying_15 : decode cX7_readSaying 15 = .ok (.istore_n 3, 1) := by decide +kernel
theorem dX7_readSaying_16 : decode cX7_readSaying 16 = .ok (.iload_n 3, 1) := by decide +kernel
theorem dX7_readSaying_17 : decode cX7_readSaying 17 = .ok (.iload_n 1, 1) := by decide +kernel
theorem dX7_readSaying_18 : decode cX7_readSaying 18 = .ok (.if_icmp .le 7, 3) := by decide +kernel
theorem dX7_readSaying_21 : decode cX7_readSaying 21 = .ok (.iload_n 3, 1) := by decide +kernel
theorem dX7_readSaying_22 : decode cX7_readSaying 22 = .ok (.goto 4, 3) := by decide +kernel
theorem dX7_readSaying_25 : decode cX7_readSaying 25 = .ok (.iload_n 1, 1) := by decide +kernel
theorem dX7_readSaying_26 : decode cX7_readSaying 26 = .ok (.istore_n 1, 1) := by decide +kernel
theorem dX7_readSaying_27 : decode cX7_readSaying 27 = .ok (.iinc 2 1, 3) := by decide +kernel
theorem dX7_readSaying_30 : decode cX7_readSaying 30 = .ok (.goto (-26), 3) := by decide +kernel
theorem dX7_readSaying_33 : decode cX7_readSaying 33 = .ok (.iload_n 1, 1) := by decide +kernel
theorem dX7_readSaying_34 : decode cX7_readSaying 34 = .ok (.ireturn, 1) := by decide +kernel
theorem dX7_sayingNow_0 : decode cX7_sayingNow 0 = .ok (.iconst 0, 1) := by decide +kernel
theorem dX7_sayingNow_1 : decode cX7_sayingNow 1 = .ok (.istore_n 1, 1) := by decide +kernel
theorem dX7_sayingNow_2 : decode cX7_sayingNow 2 = .ok (.iload_n 1, 1) := by decide +kernel
theorem dX7_sayingNow_3 : decode cX7_sayingNow 3 = .ok (.bipush 6, 2) := by decide +kernel
theorem dX7_sayingNow_5 : decode cX7_sayingNow 5 = .ok (.if_icmp .ge 34, 3) := by decide +kernel
theorem dX7_sayingNow_8 : decode cX7_sayingNow 8 = .ok (.aload_n 0, 1) := by decide +kernel
theorem dX7_sayingNow_9 : decode cX7_sayingNow 9 = .ok (.iload_n 1, 1) := by decide +kernel
theorem dX7_sayingNow_10 : decode cX7_sayingNow 10 = .ok (.invokevirtual 76, 3) := by decide +kernel
theorem dX7_sayingNow_13 : decode cX7_sayingNow 13 = .ok (.aload_n 0, 1) := by decide +kernel
theorem dX7_sayingNow_14 : decode cX7_sayingNow 14 = .ok (.getfield 51, 3) := by decide +kernel
theorem dX7_sayingNow_17 : decode cX7_sayingNow 17 = .ok (.if_icmp .ne 16, 3) := by decide +kernel
theorem dX7_sayingNow_20 : decode cX7_sayingNow 20 = .ok (.iload_n 1, 1) := by decide +kernel
theorem dX7_sayingNow_21 : decode cX7_sayingNow 21 = .ok (.aload_n 0, 1) := by decide +kernel
theorem dX7_sayingNow_22 : decode cX7_sayingNow 22 = .ok (.getfield 51, 3) := by decide +kernel
theorem dX7_sayingNow_25 : decode cX7_sayingNow 25 = .ok (.invokestatic 70, 3) := by decide +kernel
theorem dX7_sayingNow_28 : decode cX7_sayingNow 28 = .ok (.ifCond .ne 5, 3) := by decide +kernel
theorem dX7_sayingNow_31 : decode cX7_sayingNow 31 = .ok (.iload_n 1, 1) := by decide +kernel
theorem dX7_sayingNow_32 : decode cX7_sayingNow 32 = .ok (.ireturn, 1) := by decide +kernel
theorem dX7_sayingNow_33 : decode cX7_sayingNow 33 = .ok (.iinc 1 1, 3) := by decide +kernel
theorem dX7_sayingNow_36 : decode cX7_sayingNow 36 = .ok (.goto (-34), 3) := by decide +kernel
theorem dX7_sayingNow_39 : decode cX7_sayingNow 39 = .ok (.iconst (-1), 1) := by decide +kernel
theorem dX7_sayingNow_40 : decode cX7_sayingNow 40 = .ok (.ireturn, 1) := by decide +kernel
theorem dX7_fault_0 : decode cX7_fault 0 = .ok (.iload_n 1, 1) := by decide +kernel
theorem dX7_fault_1 : decode cX7_fault 1 = .ok (.iconst 0, 1) := by decide +kernel
theorem dX7_fault_2 : decode cX7_fault 2 = .ok (.iconst 1, 1) := by decide +kernel
theorem dX7_fault_3 : decode cX7_fault 3 = .ok (.invokestatic 47, 3) := by decide +kernel
theorem dX7_fault_6 : decode cX7_fault 6 = .ok (.ifCond .ne 8, 3) := by decide +kernel
theorem dX7_fault_9 : decode cX7_fault 9 = .ok (.bipush (-102), 2) := by decide +kernel
theorem dX7_fault_11 : decode cX7_fault 11 = .ok (.goto 18, 3) := by decide +kernel
theorem dX7_fault_14 : decode cX7_fault 14 = .ok (.iload_n 1, 1) := by decide +kernel
theorem dX7_fault_15 : decode cX7_fault 15 = .ok (.ifCond .ne 10, 3) := by decide +kernel
theorem dX7_fault_18 : decode cX7_fault 18 = .ok (.aload_n 0, 1) := by decide +kernel
theorem dX7_fault_19 : decode cX7_fault 19 = .ok (.invokevirtual 80, 3) := by decide +kernel
theorem dX7_fault_22 : decode cX7_fault 22 = .ok (.goto 7, 3) := by decide +kernel
theorem dX7_fault_25 : decode cX7_fault 25 = .ok (.aload_n 0, 1) := by decide +kernel
theorem dX7_fault_26 : decode cX7_fault 26 = .ok (.invokevirtual 84, 3) := by decide +kernel
theorem dX7_fault_29 : decode cX7_fault 29 = .ok (.ireturn, 1) := by decide +kernel
theorem dX7_netBy_0 : decode cX7_netBy 0 = .ok (.iload_n 0, 1) := by decide +kernel
theorem dX7_netBy_1 : decode cX7_netBy 1 = .ok (.bipush 46, 2) := by decide +kernel
theorem dX7_netBy_3 : decode cX7_netBy 3 = .ok (.if_icmp .ne 7, 3) := by decide +kernel
theorem dX7_netBy_6 : decode cX7_netBy 6 = .ok (.iconst (-1), 1) := by decide +kernel
theorem dX7_netBy_7 : decode cX7_netBy 7 = .ok (.goto 7, 3) := by decide +kernel
theorem dX7_netBy_10 : decode cX7_netBy 10 = .ok (.iload_n 0, 1) := by decide +kernel
theorem dX7_netBy_11 : decode cX7_netBy 11 = .ok (.bipush 97, 2) := by decide +kernel
theorem dX7_netBy_13 : decode cX7_netBy 13 = .ok (.isub, 1) := by decide +kernel
theorem dX7_netBy_14 : decode cX7_netBy 14 = .ok (.ireturn, 1) := by decide +kernel
theorem dX7_top_0 : decode cX7_top 0 = .ok (.aload_n 0, 1) := by decide +kernel
theorem dX7_top_1 : decode cX7_top 1 = .ok (.getfield 7, 3) := by decide +kernel
theorem dX7_top_4 : decode cX7_top 4 = .ok (.iconst 2, 1) := by decide +kernel
theorem dX7_top_5 : decode cX7_top 5 = .ok (.iload_n 1, 1) := by decide +kernel
theorem dX7_top_6 : decode cX7_top 6 = .ok (.imul, 1) := by decide +kernel
theorem dX7_top_7 : decode cX7_top 7 = .ok (.iaload, 1) := by decide +kernel
theorem dX7_top_8 : decode cX7_top 8 = .ok (.ireturn, 1) := by decide +kernel
theorem dX7_bottom_0 : decode cX7_bottom 0 = .ok (.aload_n 0, 1) := by decide +kernel
theorem dX7_bottom_1 : decode cX7_bottom 1 = .ok (.getfield 7, 3) := by decide +kernel
theorem dX7_bottom_4 : decode cX7_bottom 4 = .ok (.iconst 2, 1) := by decide +kernel
theorem dX7_bottom_5 : decode cX7_bottom 5 = .ok (.iload_n 1, 1) := by decide +kernel
theorem dX7_bottom_6 : decode cX7_bottom 6 = .ok (.imul, 1) := by decide +kernel
theorem dX7_bottom_7 : decode cX7_bottom 7 = .ok (.iconst 1, 1) := by decide +kernel
theorem dX7_bottom_8 : decode cX7_bottom 8 = .ok (.iadd, 1) := by decide +kernel
theorem dX7_bottom_9 : decode cX7_bottom 9 = .ok (.iaload, 1) := by decide +kernel
theorem dX7_bottom_10 : decode cX7_bottom 10 = .ok (.ireturn, 1) := by decide +kernel
theorem dX7_hasPin_0 : decode cX7_hasPin 0 = .ok (.aload_n 0, 1) := by decide +kernel
theorem dX7_hasPin_1 : decode cX7_hasPin 1 = .ok (.iload_n 2, 1) := by decide +kernel
theorem dX7_hasPin_2 : decode cX7_hasPin 2 = .ok (.invokevirtual 124, 3) := by decide +kernel
theorem dX7_hasPin_5 : decode cX7_hasPin 5 = .ok (.iload_n 1, 1) := by decide +kernel
theorem dX7_hasPin_6 : decode cX7_hasPin 6 = .ok (.if_icmp .eq 12, 3) := by decide +kernel
theorem dX7_hasPin_9 : decode cX7_hasPin 9 = .ok (.aload_n 0, 1) := by decide +kernel
theorem dX7_hasPin_10 : decode cX7_hasPin 10 = .ok (.iload_n 2, 1) := by decide +kernel
theorem dX7_hasPin_11 : decode cX7_hasPin 11 = .ok (.invokevirtual 127, 3) := by decide +kernel
theorem dX7_hasPin_14 : decode cX7_hasPin 14 = .ok (.iload_n 1, 1) := by decide +kernel
theorem dX7_hasPin_15 : decode cX7_hasPin 15 = .ok (.if_icmp .ne 7, 3) := by decide +kernel
theorem dX7_hasPin_18 : decode cX7_hasPin 18 = .ok (.iconst 1, 1) := by decide +kernel
theorem dX7_hasPin_19 : decode cX7_hasPin 19 = .ok (.goto 4, 3) := by decide +kernel
theorem dX7_hasPin_22 : decode cX7_hasPin 22 = .ok (.iconst 0, 1) := by decide +kernel
theorem dX7_hasPin_23 : decode cX7_hasPin 23 = .ok (.ireturn, 1) := by decide +kernel
theorem dX7_addSegment_0 : decode cX7_addSegment 0 = .ok (.aload_n 0, 1) := by decide +kernel
theorem dX7_addSegment_1 : decode cX7_addSegment 1 = .ok (.getfield 13, 3) := by decide +kernel
theorem dX7_addSegment_4 : decode cX7_addSegment 4 = .ok (.aload_n 0, 1) := by decide +kernel
theorem dX7_addSegment_5 : decode cX7_addSegment 5 = .ok (.getfield 130, 3) := by decide +kernel
theorem dX7_addSegment_8 : decode cX7_addSegment 8 = .ok (.iload_n 1, 1) := by decide +kernel
theorem dX7_addSegment_9 : decode cX7_addSegment 9 = .ok (.iastore, 1) := by decide +kernel
theorem dX7_addSegment_10 : decode cX7_addSegment 10 = .ok (.aload_n 0, 1) := by decide +kernel
theorem dX7_addSegment_11 : decode cX7_addSegment 11 = .ok (.getfield 16, 3) := by decide +kernel
theorem dX7_addSegment_14 : decode cX7_addSegment 14 = .ok (.aload_n 0, 1) := by decide +kernel
theorem dX7_addSegment_15 : decode cX7_addSegment 15 = .ok (.getfield 130, 3) := by decide +kernel
theorem dX7_addSegment_18 : decode cX7_addSegment 18 = .ok (.iload_n 2, 1) := by decide +kernel
theorem dX7_addSegment_19 : decode cX7_addSegment 19 = .ok (.iastore, 1) := by decide +kernel
theorem dX7_addSegment_20 : decode cX7_addSegment 20 = .ok (.aload_n 0, 1) := by decide +kernel
theorem dX7_addSegment_21 : decode cX7_addSegment 21 = .ok (.getfield 19, 3) := by decide +kernel
theorem dX7_addSegment_24 : decode cX7_addSegment 24 = .ok (.aload_n 0, 1) := by decide +kernel
theorem dX7_addSegment_25 : decode cX7_addSegment 25 = .ok (.getfield 130, 3) := by decide +kernel
theorem dX7_addSegment_28 : decode cX7_addSegment 28 = .ok (.iload_n 3, 1) := by decide +kernel
theorem dX7_addSegment_29 : decode cX7_addSegment 29 = .ok (.iastore, 1) := by decide +kernel
theorem dX7_addSegment_30 : decode cX7_addSegment 30 = .ok (.aload_n 0, 1) := by decide +kernel
theorem dX7_addSegment_31 : decode cX7_addSegment 31 = .ok (.dup, 1) := by decide +kernel
theorem dX7_addSegment_32 : decode cX7_addSegment 32 = .ok (.getfield 130, 3) := by decide +kernel
theorem dX7_addSegment_35 : decode cX7_addSegment 35 = .ok (.iconst 1, 1) := by decide +kernel
theorem dX7_addSegment_36 : decode cX7_addSegment 36 = .ok (.iadd, 1) := by decide +kernel
theorem dX7_addSegment_37 : decode cX7_addSegment 37 = .ok (.putfield 130, 3) := by decide +kernel
theorem dX7_addSegment_40 : decode cX7_addSegment 40 = .ok (.return_, 1) := by decide +kernel
theorem dX7_layNet_0 : decode cX7_layNet 0 = .ok (.iconst (-1), 1) := by decide +kernel
theorem dX7_layNet_1 : decode cX7_layNet 1 = .ok (.istore_n 3, 1) := by decide +kernel
theorem dX7_layNet_2 : decode cX7_layNet 2 = .ok (.iconst (-1), 1) := by decide +kernel
theorem dX7_layNet_3 : decode cX7_layNet 3 = .ok (.istore 4, 2) := by decide +kernel
theorem dX7_layNet_5 : decode cX7_layNet 5 = .ok (.iconst 0, 1) := by decide +kernel
theorem dX7_layNet_6 : decode cX7_layNet 6 = .ok (.istore 5, 2) := by decide +kernel
theorem dX7_layNet_8 : decode cX7_layNet 8 = .ok (.iload 5, 2) := by decide +kernel
theorem dX7_layNet_10 : decode cX7_layNet 10 = .ok (.aload_n 0, 1) := by decide +kernel
theorem dX7_layNet_11 : decode cX7_layNet 11 = .ok (.getfield 87, 3) := by decide +kernel
theorem dX7_layNet_14 : decode cX7_layNet 14 = .ok (.if_icmp .ge 54, 3) := by decide +kernel
theorem dX7_layNet_17 : decode cX7_layNet 17 = .ok (.aload_n 0, 1) := by decide +kernel
theorem dX7_layNet_18 : decode cX7_layNet 18 = .ok (.iload_n 1, 1) := by decide +kernel
theorem dX7_layNet_19 : decode cX7_layNet 19 = .ok (.iload 5, 2) := by decide +kernel
theorem dX7_layNet_21 : decode cX7_layNet 21 = .ok (.invokevirtual 133, 3) := by decide +kernel
theorem dX7_layNet_24 : decode cX7_layNet 24 = .ok (.ifCond .eq 38, 3) := by decide +kernel
theorem dX7_layNet_27 : decode cX7_layNet 27 = .ok (.iload_n 2, 1) := by decide +kernel
theorem dX7_layNet_28 : decode cX7_layNet 28 = .ok (.ifCond .eq 18, 3) := by decide +kernel
theorem dX7_layNet_31 : decode cX7_layNet 31 = .ok (.iload 4, 2) := by decide +kernel
theorem dX7_layNet_33 : decode cX7_layNet 33 = .ok (.iconst (-1), 1) := by decide +kernel
theorem dX7_layNet_34 : decode cX7_layNet 34 = .ok (.if_icmp .eq 12, 3) := by decide +kernel
theorem dX7_layNet_37 : decode cX7_layNet 37 = .ok (.aload_n 0, 1) := by decide +kernel
theorem dX7_layNet_38 : decode cX7_layNet 38 = .ok (.iload_n 1, 1) := by decide +kernel
theorem dX7_layNet_39 : decode cX7_layNet 39 = .ok (.iload 4, 2) := by decide +kernel
theorem dX7_layNet_41 : decode cX7_layNet 41 = .ok (.iload 5, 2) := by decide +kernel
theorem dX7_layNet_43 : decode cX7_layNet 43 = .ok (.invokevirtual 136, 3) := by decide +kernel
theorem dX7_layNet_46 : decode cX7_layNet 46 = .ok (.iload_n 3, 1) := by decide +kernel
theorem dX7_layNet_47 : decode cX7_layNet 47 = .ok (.iconst (-1), 1) := by decide +kernel
theorem dX7_layNet_48 : decode cX7_layNet 48 = .ok (.if_icmp .ne 8, 3) := by decide +kernel
theorem dX7_layNet_51 : decode cX7_layNet 51 = .ok (.iload 5, 2) := by decide +kernel
theorem dX7_layNet_53 : decode cX7_layNet 53 = .ok (.goto 4, 3) := by decide +kernel
theorem dX7_layNet_56 : decode cX7_layNet 56 = .ok (.iload_n 3, 1) := by decide +kernel
theorem dX7_layNet_57 : decode cX7_layNet 57 = .ok (.istore_n 3, 1) := by decide +kernel
theorem dX7_layNet_58 : decode cX7_layNet 58 = .ok (.iload 5, 2) := by decide +kernel
theorem dX7_layNet_60 : decode cX7_layNet 60 = .ok (.istore 4, 2) := by decide +kernel
theorem dX7_layNet_62 : decode cX7_layNet 62 = .ok (.iinc 5 1, 3) := by decide +kernel
theorem dX7_layNet_65 : decode cX7_layNet 65 = .ok (.goto (-57), 3) := by decide +kernel
theorem dX7_layNet_68 : decode cX7_layNet 68 = .ok (.iload_n 2, 1) := by decide +kernel
theorem dX7_layNet_69 : decode cX7_layNet 69 = .ok (.ifCond .ne 17, 3) := by decide +kernel
theorem dX7_layNet_72 : decode cX7_layNet 72 = .ok (.iload 4, 2) := by decide +kernel
theorem dX7_layNet_74 : decode cX7_layNet 74 = .ok (.iload_n 3, 1) := by decide +kernel
theorem dX7_layNet_75 : decode cX7_layNet 75 = .ok (.if_icmp .le 11, 3) := by decide +kernel
theorem dX7_layNet_78 : decode cX7_layNet 78 = .ok (.aload_n 0, 1) := by decide +kernel
theorem dX7_layNet_79 : decode cX7_layNet 79 = .ok (.iload_n 1, 1) := by decide +kernel
theorem dX7_layNet_80 : decode cX7_layNet 80 = .ok (.iload_n 3, 1) := by decide +kernel
theorem dX7_layNet_81 : decode cX7_layNet 81 = .ok (.iload 4, 2) := by decide +kernel
theorem dX7_layNet_83 : decode cX7_layNet 83 = .ok (.invokevirtual 136, 3) := by decide +kernel
theorem dX7_layNet_86 : decode cX7_layNet 86 = .ok (.return_, 1) := by decide +kernel
theorem dX7_isWithin_0 : decode cX7_isWithin 0 = .ok (.iload_n 2, 1) := by decide +kernel
theorem dX7_isWithin_1 : decode cX7_isWithin 1 = .ok (.aload_n 0, 1) := by decide +kernel
theorem dX7_isWithin_2 : decode cX7_isWithin 2 = .ok (.getfield 16, 3) := by decide +kernel
theorem dX7_isWithin_5 : decode cX7_isWithin 5 = .ok (.iload_n 1, 1) := by decide +kernel
theorem dX7_isWithin_6 : decode cX7_isWithin 6 = .ok (.iaload, 1) := by decide +kernel
theorem dX7_isWithin_7 : decode cX7_isWithin 7 = .ok (.aload_n 0, 1) := by decide +kernel
theorem dX7_isWithin_8 : decode cX7_isWithin 8 = .ok (.getfield 19, 3) := by decide +kernel
theorem dX7_isWithin_11 : decode cX7_isWithin 11 = .ok (.iload_n 1, 1) := by decide +kernel
theorem dX7_isWithin_12 : decode cX7_isWithin 12 = .ok (.iaload, 1) := by decide +kernel
theorem dX7_isWithin_13 : decode cX7_isWithin 13 = .ok (.invokestatic 47, 3) := by decide +kernel
theorem dX7_isWithin_16 : decode cX7_isWithin 16 = .ok (.ireturn, 1) := by decide +kernel
theorem dX7_touches_0 : decode cX7_touches 0 = .ok (.aload_n 0, 1) := by decide +kernel
theorem dX7_touches_1 : decode cX7_touches 1 = .ok (.iload_n 1, 1) := by decide +kernel
theorem dX7_touches_2 : decode cX7_touches 2 = .ok (.iload_n 2, 1) := by decide +kernel
theorem dX7_touches_3 : decode cX7_touches 3 = .ok (.invokevirtual 140, 3) := by decide +kernel
theorem dX7_touches_6 : decode cX7_touches 6 = .ok (.ifCond .eq 21, 3) := by decide +kernel
theorem dX7_touches_9 : decode cX7_touches 9 = .ok (.aload_n 0, 1) := by decide +kernel
theorem dX7_touches_10 : decode cX7_touches 10 = .ok (.aload_n 0, 1) := by decide +kernel
theorem dX7_touches_11 : decode cX7_touches 11 = .ok (.getfield 13, 3) := by decide +kernel
theorem dX7_touches_14 : decode cX7_touches 14 = .ok (.iload_n 1, 1) := by decide +kernel
theorem dX7_touches_15 : decode cX7_touches 15 = .ok (.iaload, 1) := by decide +kernel
theorem dX7_touches_16 : decode cX7_touches 16 = .ok (.iload_n 2, 1) := by decide +kernel
theorem dX7_touches_17 : decode cX7_touches 17 = .ok (.invokevirtual 133, 3) := by decide +kernel
theorem dX7_touches_20 : decode cX7_touches 20 = .ok (.ifCond .eq 7, 3) := by decide +kernel
theorem dX7_touches_23 : decode cX7_touches 23 = .ok (.iconst 1, 1) := by decide +kernel
theorem dX7_touches_24 : decode cX7_touches 24 = .ok (.goto 4, 3) := by decide +kernel
theorem dX7_touches_27 : decode cX7_touches 27 = .ok (.iconst 0, 1) := by decide +kernel
theorem dX7_touches_28 : decode cX7_touches 28 = .ok (.ireturn, 1) := by decide +kernel
theorem dX7_isAbove_0 : decode cX7_isAbove 0 = .ok (.iconst 0, 1) := by decide +kernel
theorem dX7_isAbove_1 : decode cX7_isAbove 1 = .ok (.istore_n 3, 1) := by decide +kernel
theorem dX7_isAbove_2 : decode cX7_isAbove 2 = .ok (.iconst 0, 1) := by decide +kernel
theorem dX7_isAbove_3 : decode cX7_isAbove 3 = .ok (.istore 4, 2) := by decide +kernel
theorem dX7_isAbove_5 : decode cX7_isAbove 5 = .ok (.iload 4, 2) := by decide +kernel
theorem dX7_isAbove_7 : decode cX7_isAbove 7 = .ok (.aload_n 0, 1) := by decide +kernel
theorem dX7_isAbove_8 : decode cX7_isAbove 8 = .ok (.getfield 87, 3) := by decide +kernel
theorem dX7_isAbove_11 : decode cX7_isAbove 11 = .ok (.if_icmp .ge 81, 3) := by decide +kernel
theorem dX7_isAbove_14 : decode cX7_isAbove 14 = .ok (.aload_n 0, 1) := by decide +kernel
theorem dX7_isAbove_15 : decode cX7_isAbove 15 = .ok (.iload 4, 2) := by decide +kernel
theorem dX7_isAbove_17 : decode cX7_isAbove 17 = .ok (.invokevirtual 124, 3) := by decide +kernel
theorem dX7_isAbove_20 : decode cX7_isAbove 20 = .ok (.aload_n 0, 1) := by decide +kernel
theorem dX7_isAbove_21 : decode cX7_isAbove 21 = .ok (.getfield 13, 3) := by decide +kernel
theorem dX7_isAbove_24 : decode cX7_isAbove 24 = .ok (.iload_n 1, 1) := by decide +kernel
theorem dX7_isAbove_25 : decode cX7_isAbove 25 = .ok (.iaload, 1) := by decide +kernel
theorem dX7_isAbove_26 : decode cX7_isAbove 26 = .ok (.if_icmp .ne 22, 3) := by decide +kernel
theorem dX7_isAbove_29 : decode cX7_isAbove 29 = .ok (.aload_n 0, 1) := by decide +kernel
theorem dX7_isAbove_30 : decode cX7_isAbove 30 = .ok (.iload 4, 2) := by decide +kernel
theorem dX7_isAbove_32 : decode cX7_isAbove 32 = .ok (.invokevirtual 127, 3) := by decide +kernel
theorem dX7_isAbove_35 : decode cX7_isAbove 35 = .ok (.aload_n 0, 1) := by decide +kernel
theorem dX7_isAbove_36 : decode cX7_isAbove 36 = .ok (.getfield 13, 3) := by decide +kernel
theorem dX7_isAbove_39 : decode cX7_isAbove 39 = .ok (.iload_n 2, 1) := by decide +kernel
theorem dX7_isAbove_40 : decode cX7_isAbove 40 = .ok (.iaload, 1) := by decide +kernel
theorem dX7_isAbove_41 : decode cX7_isAbove 41 = .ok (.if_icmp .ne 7, 3) := by decide +kernel
theorem dX7_isAbove_44 : decode cX7_isAbove 44 = .ok (.iconst 1, 1) := by decide +kernel
theorem dX7_isAbove_45 : decode cX7_isAbove 45 = .ok (.goto 4, 3) := by decide +kernel
theorem dX7_isAbove_48 : decode cX7_isAbove 48 = .ok (.iconst 0, 1) := by decide +kernel
theorem dX7_isAbove_49 : decode cX7_isAbove 49 = .ok (.istore 5, 2) := by decide +kernel
theorem dX7_isAbove_51 : decode cX7_isAbove 51 = .ok (.iload_n 3, 1) := by decide +kernel
theorem dX7_isAbove_52 : decode cX7_isAbove 52 = .ok (.ifCond .ne 28, 3) := by decide +kernel
theorem dX7_isAbove_55 : decode cX7_isAbove 55 = .ok (.iload 5, 2) := by decide +kernel
theorem dX7_isAbove_57 : decode cX7_isAbove 57 = .ok (.ifCond .eq 27, 3) := by decide +kernel
theorem dX7_isAbove_60 : decode cX7_isAbove 60 = .ok (.aload_n 0, 1) := by decide +kernel
theorem dX7_isAbove_61 : decode cX7_isAbove 61 = .ok (.iload_n 1, 1) := by decide +kernel
theorem dX7_isAbove_62 : decode cX7_isAbove 62 = .ok (.iload 4, 2) := by decide +kernel
theorem dX7_isAbove_64 : decode cX7_isAbove 64 = .ok (.invokevirtual 143, 3) := by decide +kernel
theorem dX7_isAbove_67 : decode cX7_isAbove 67 = .ok (.ifCond .eq 17, 3) := by decide +kernel
theorem dX7_isAbove_70 : decode cX7_isAbove 70 = .ok (.aload_n 0, 1) := by decide +kernel
theorem dX7_isAbove_71 : decode cX7_isAbove 71 = .ok (.iload_n 2, 1) := by decide +kernel
theorem dX7_isAbove_72 : decode cX7_isAbove 72 = .ok (.iload 4, 2) := by decide +kernel
theorem dX7_isAbove_74 : decode cX7_isAbove 74 = .ok (.invokevirtual 143, 3) := by decide +kernel
theorem dX7_isAbove_77 : decode cX7_isAbove 77 = .ok (.ifCond .eq 7, 3) := by decide +kernel
theorem dX7_isAbove_80 : decode cX7_isAbove 80 = .ok (.iconst 1, 1) := by decide +kernel
theorem dX7_isAbove_81 : decode cX7_isAbove 81 = .ok (.goto 4, 3) := by decide +kernel
theorem dX7_isAbove_84 : decode cX7_isAbove 84 = .ok (.iconst 0, 1) := by decide +kernel
theorem dX7_isAbove_85 : decode cX7_isAbove 85 = .ok (.istore_n 3, 1) := by decide +kernel
theorem dX7_isAbove_86 : decode cX7_isAbove 86 = .ok (.iinc 4 1, 3) := by decide +kernel
theorem dX7_isAbove_89 : decode cX7_isAbove 89 = .ok (.goto (-84), 3) := by decide +kernel
theorem dX7_isAbove_92 : decode cX7_isAbove 92 = .ok (.iload_n 3, 1) := by decide +kernel
theorem dX7_isAbove_93 : decode cX7_isAbove 93 = .ok (.ifCond .eq 22, 3) := by decide +kernel
theorem dX7_isAbove_96 : decode cX7_isAbove 96 = .ok (.aload_n 0, 1) := by decide +kernel
theorem dX7_isAbove_97 : decode cX7_isAbove 97 = .ok (.getfield 13, 3) := by decide +kernel
theorem dX7_isAbove_100 : decode cX7_isAbove 100 = .ok (.iload_n 1, 1) := by decide +kernel
theorem dX7_isAbove_101 : decode cX7_isAbove 101 = .ok (.iaload, 1) := by decide +kernel
theorem dX7_isAbove_102 : decode cX7_isAbove 102 = .ok (.aload_n 0, 1) := by decide +kernel
theorem dX7_isAbove_103 : decode cX7_isAbove 103 = .ok (.getfield 13, 3) := by decide +kernel
theorem dX7_isAbove_106 : decode cX7_isAbove 106 = .ok (.iload_n 2, 1) := by decide +kernel
theorem dX7_isAbove_107 : decode cX7_isAbove 107 = .ok (.iaload, 1) := by decide +kernel
theorem dX7_isAbove_108 : decode cX7_isAbove 108 = .ok (.if_icmp .eq 7, 3) := by decide +kernel
theorem dX7_isAbove_111 : decode cX7_isAbove 111 = .ok (.iconst 1, 1) := by decide +kernel
theorem dX7_isAbove_112 : decode cX7_isAbove 112 = .ok (.goto 4, 3) := by decide +kernel
theorem dX7_isAbove_115 : decode cX7_isAbove 115 = .ok (.iconst 0, 1) := by decide +kernel
theorem dX7_isAbove_116 : decode cX7_isAbove 116 = .ok (.ireturn, 1) := by decide +kernel
theorem dX7_laySegments_0 : decode cX7_laySegments 0 = .ok (.aload_n 0, 1) := by decide +kernel
theorem dX7_laySegments_1 : decode cX7_laySegments 1 = .ok (.iconst 0, 1) := by decide +kernel
theorem dX7_laySegments_2 : decode cX7_laySegments 2 = .ok (.putfield 130, 3) := by decide +kernel
theorem dX7_laySegments_5 : decode cX7_laySegments 5 = .ok (.iconst 0, 1) := by decide +kernel
theorem dX7_laySegments_6 : decode cX7_laySegments 6 = .ok (.istore_n 2, 1) := by decide +kernel
theorem dX7_laySegments_7 : decode cX7_laySegments 7 = .ok (.iload_n 2, 1) := by decide +kernel
theorem dX7_laySegments_8 : decode cX7_laySegments 8 = .ok (.bipush 6, 2) := by decide +kernel
theorem dX7_laySegments_10 : decode cX7_laySegments 10 = .ok (.if_icmp .ge 19, 3) := by decide +kernel
theorem dX7_laySegments_13 : decode cX7_laySegments 13 = .ok (.aload_n 0, 1) := by decide +kernel
theorem dX7_laySegments_14 : decode cX7_laySegments 14 = .ok (.iload_n 2, 1) := by decide +kernel
theorem dX7_laySegments_15 : decode cX7_laySegments 15 = .ok (.iload_n 1, 1) := by decide +kernel
theorem dX7_laySegments_16 : decode cX7_laySegments 16 = .ok (.iload_n 2, 1) := by decide +kernel
theorem dX7_laySegments_17 : decode cX7_laySegments 17 = .ok (.invokestatic 43, 3) := by decide +kernel
theorem dX7_laySegments_20 : decode cX7_laySegments 20 = .ok (.invokevirtual 146, 3) := by decide +kernel
theorem dX7_laySegments_23 : decode cX7_laySegments 23 = .ok (.iinc 2 1, 3) := by decide +kernel
theorem dX7_laySegments_26 : decode cX7_laySegments 26 = .ok (.goto (-19), 3) := by decide +kernel
theorem dX7_laySegments_29 : decode cX7_laySegments 29 = .ok (.iconst 0, 1) := by decide +kernel
theorem dX7_laySegments_30 : decode cX7_laySegments 30 = .ok (.istore_n 2, 1) := by decide +kernel
theorem dX7_laySegments_31 : decode cX7_laySegments 31 = .ok (.iload_n 2, 1) := by decide +kernel
theorem dX7_laySegments_32 : decode cX7_laySegments 32 = .ok (.aload_n 0, 1) := by decide +kernel
theorem dX7_laySegments_33 : decode cX7_laySegments 33 = .ok (.getfield 130, 3) := by decide +kernel
theorem dX7_laySegments_36 : decode cX7_laySegments 36 = .ok (.if_icmp .ge 69, 3) := by decide +kernel
theorem dX7_laySegments_39 : decode cX7_laySegments 39 = .ok (.aload_n 0, 1) := by decide +kernel
theorem dX7_laySegments_40 : decode cX7_laySegments 40 = .ok (.getfield 25, 3) := by decide +kernel
theorem dX7_laySegments_43 : decode cX7_laySegments 43 = .ok (.iload_n 2, 1) := by decide +kernel
theorem dX7_laySegments_44 : decode cX7_laySegments 44 = .ok (.iconst 0, 1) := by decide +kernel
theorem dX7_laySegments_45 : decode cX7_laySegments 45 = .ok (.iastore, 1) := by decide +kernel
theorem dX7_laySegments_46 : decode cX7_laySegments 46 = .ok (.iconst 0, 1) := by decide +kernel
theorem dX7_laySegments_47 : decode cX7_laySegments 47 = .ok (.istore_n 3, 1) := by decide +kernel
theorem dX7_laySegments_48 : decode cX7_laySegments 48 = .ok (.iload_n 3, 1) := by decide +kernel
theorem dX7_laySegments_49 : decode cX7_laySegments 49 = .ok (.aload_n 0, 1) := by decide +kernel
theorem dX7_laySegments_50 : decode cX7_laySegments 50 = .ok (.getfield 130, 3) := by decide +kernel
theorem dX7_laySegments_53 : decode cX7_laySegments 53 = .ok (.if_icmp .ge 34, 3) := by decide +kernel
theorem dX7_laySegments_56 : decode cX7_laySegments 56 = .ok (.aload_n 0, 1) := by decide +kernel
theorem dX7_laySegments_57 : decode cX7_laySegments 57 = .ok (.getfield 25, 3) := by decide +kernel
theorem dX7_laySegments_60 : decode cX7_laySegments 60 = .ok (.iload_n 2, 1) := by decide +kernel
theorem dX7_laySegments_61 : decode cX7_laySegments 61 = .ok (.dup2, 1) := by decide +kernel
theorem dX7_laySegments_62 : decode cX7_laySegments 62 = .ok (.iaload, 1) := by decide +kernel
theorem dX7_laySegments_63 : decode cX7_laySegments 63 = .ok (.aload_n 0, 1) := by decide +kernel
theorem dX7_laySegments_64 : decode cX7_laySegments 64 = .ok (.iload_n 2, 1) := by decide +kernel
theorem dX7_laySegments_65 : decode cX7_laySegments 65 = .ok (.iload_n 3, 1) := by decide +kernel
theorem dX7_laySegments_66 : decode cX7_laySegments 66 = .ok (.invokevirtual 150, 3) := by decide +kernel
theorem dX7_laySegments_69 : decode cX7_laySegments 69 = .ok (.ifCond .eq 9, 3) := by decide +kernel
theorem dX7_laySegments_72 : decode cX7_laySegments 72 = .ok (.iconst 1, 1) := by decide +kernel
theorem dX7_laySegments_73 : decode cX7_laySegments 73 = .ok (.iload_n 3, 1) := by decide +kernel
theorem dX7_laySegments_74 : decode cX7_laySegments 74 = .ok (.ishl, 1) := by decide +kernel
theorem dX7_laySegments_75 : decode cX7_laySegments 75 = .ok (.goto 4, 3) := by decide +kernel
theorem dX7_laySegments_78 : decode cX7_laySegments 78 = .ok (.iconst 0, 1) := by decide +kernel
theorem dX7_laySegments_79 : decode cX7_laySegments 79 = .ok (.ior, 1) := by decide +kernel
theorem dX7_laySegments_80 : decode cX7_laySegments 80 = .ok (.iastore, 1) := by decide +kernel
theorem dX7_laySegments_81 : decode cX7_laySegments 81 = .ok (.iinc 3 1, 3) := by decide +kernel
theorem dX7_laySegments_84 : decode cX7_laySegments 84 = .ok (.goto (-36), 3) := by decide +kernel
theorem dX7_laySegments_87 : decode cX7_laySegments 87 = .ok (.aload_n 0, 1) := by decide +kernel
theorem dX7_laySegments_88 : decode cX7_laySegments 88 = .ok (.getfield 28, 3) := by decide +kernel
theorem dX7_laySegments_91 : decode cX7_laySegments 91 = .ok (.iload_n 2, 1) := by decide +kernel
theorem dX7_laySegments_92 : decode cX7_laySegments 92 = .ok (.aload_n 0, 1) := by decide +kernel
theorem dX7_laySegments_93 : decode cX7_laySegments 93 = .ok (.getfield 25, 3) := by decide +kernel
theorem dX7_laySegments_96 : decode cX7_laySegments 96 = .ok (.iload_n 2, 1) := by decide +kernel
theorem dX7_laySegments_97 : decode cX7_laySegments 97 = .ok (.iaload, 1) := by decide +kernel
theorem dX7_laySegments_98 : decode cX7_laySegments 98 = .ok (.iastore, 1) := by decide +kernel
theorem dX7_laySegments_99 : decode cX7_laySegments 99 = .ok (.iinc 2 1, 3) := by decide +kernel
theorem dX7_laySegments_102 : decode cX7_laySegments 102 = .ok (.goto (-71), 3) := by decide +kernel
theorem dX7_laySegments_105 : decode cX7_laySegments 105 = .ok (.iconst 0, 1) := by decide +kernel
theorem dX7_laySegments_106 : decode cX7_laySegments 106 = .ok (.istore_n 2, 1) := by decide +kernel
theorem dX7_laySegments_107 : decode cX7_laySegments 107 = .ok (.iload_n 2, 1) := by decide +kernel
theorem dX7_laySegments_108 : decode cX7_laySegments 108 = .ok (.aload_n 0, 1) := by decide +kernel
theorem dX7_laySegments_109 : decode cX7_laySegments 109 = .ok (.getfield 130, 3) := by decide +kernel
theorem dX7_laySegments_112 : decode cX7_laySegments 112 = .ok (.if_icmp .ge 57, 3) := by decide +kernel
theorem dX7_laySegments_115 : decode cX7_laySegments 115 = .ok (.iconst 0, 1) := by decide +kernel
theorem dX7_laySegments_116 : decode cX7_laySegments 116 = .ok (.istore_n 3, 1) := by decide +kernel
theorem dX7_laySegments_117 : decode cX7_laySegments 117 = .ok (.iload_n 3, 1) := by decide +kernel
theorem dX7_laySegments_118 : decode cX7_laySegments 118 = .ok (.aload_n 0, 1) := by decide +kernel
theorem dX7_laySegments_119 : decode cX7_laySegments 119 = .ok (.getfield 130, 3) := by decide +kernel
theorem dX7_laySegments_122 : decode cX7_laySegments 122 = .ok (.if_icmp .ge 41, 3) := by decide +kernel
theorem dX7_laySegments_125 : decode cX7_laySegments 125 = .ok (.aload_n 0, 1) := by decide +kernel
theorem dX7_laySegments_126 : decode cX7_laySegments 126 = .ok (.getfield 28, 3) := by decide +kernel
theorem dX7_laySegments_129 : decode cX7_laySegments 129 = .ok (.iload_n 3, 1) := by decide +kernel
theorem dX7_laySegments_130 : decode cX7_laySegments 130 = .ok (.dup2, 1) := by decide +kernel
theorem dX7_laySegments_131 : decode cX7_laySegments 131 = .ok (.iaload, 1) := by decide +kernel
theorem dX7_laySegments_132 : decode cX7_laySegments 132 = .ok (.aload_n 0, 1) := by decide +kernel
theorem dX7_laySegments_133 : decode cX7_laySegments 133 = .ok (.getfield 28, 3) := by decide +kernel
theorem dX7_laySegments_136 : decode cX7_laySegments 136 = .ok (.iload_n 3, 1) := by decide +kernel
theorem dX7_laySegments_137 : decode cX7_laySegments 137 = .ok (.iaload, 1) := by decide +kernel
theorem dX7_laySegments_138 : decode cX7_laySegments 138 = .ok (.iload_n 2, 1) := by decide +kernel
theorem dX7_laySegments_139 : decode cX7_laySegments 139 = .ok (.invokestatic 43, 3) := by decide +kernel
theorem dX7_laySegments_142 : decode cX7_laySegments 142 = .ok (.ifCond .eq 12, 3) := by decide +kernel
theorem dX7_laySegments_145 : decode cX7_laySegments 145 = .ok (.aload_n 0, 1) := by decide +kernel
theorem dX7_laySegments_146 : decode cX7_laySegments 146 = .ok (.getfield 28, 3) := by decide +kernel
theorem dX7_laySegments_149 : decode cX7_laySegments 149 = .ok (.iload_n 2, 1) := by decide +kernel
theorem dX7_laySegments_150 : decode cX7_laySegments 150 = .ok (.iaload, 1) := by decide +kernel
theorem dX7_laySegments_151 : decode cX7_laySegments 151 = .ok (.goto 4, 3) := by decide +kernel
theorem dX7_laySegments_154 : decode cX7_laySegments 154 = .ok (.iconst 0, 1) := by decide +kernel
theorem dX7_laySegments_155 : decode cX7_laySegments 155 = .ok (.ior, 1) := by decide +kernel
theorem dX7_laySegments_156 : decode cX7_laySegments 156 = .ok (.iastore, 1) := by decide +kernel
theorem dX7_laySegments_157 : decode cX7_laySegments 157 = .ok (.iinc 3 1, 3) := by decide +kernel
theorem dX7_laySegments_160 : decode cX7_laySegments 160 = .ok (.goto (-43), 3) := by decide +kernel
theorem dX7_laySegments_163 : decode cX7_laySegments 163 = .ok (.iinc 2 1, 3) := by decide +kernel
theorem dX7_laySegments_166 : decode cX7_laySegments 166 = .ok (.goto (-59), 3) := by decide +kernel
theorem dX7_laySegments_169 : decode cX7_laySegments 169 = .ok (.return_, 1) := by decide +kernel
theorem dX7_isRing_0 : decode cX7_isRing 0 = .ok (.iconst 0, 1) := by decide +kernel
theorem dX7_isRing_1 : decode cX7_isRing 1 = .ok (.istore_n 1, 1) := by decide +kernel
theorem dX7_isRing_2 : decode cX7_isRing 2 = .ok (.iconst 0, 1) := by decide +kernel
theorem dX7_isRing_3 : decode cX7_isRing 3 = .ok (.istore_n 2, 1) := by decide +kernel
theorem dX7_isRing_4 : decode cX7_isRing 4 = .ok (.iload_n 2, 1) := by decide +kernel
theorem dX7_isRing_5 : decode cX7_isRing 5 = .ok (.aload_n 0, 1) := by decide +kernel
theorem dX7_isRing_6 : decode cX7_isRing 6 = .ok (.getfield 130, 3) := by decide +kernel
theorem dX7_isRing_9 : decode cX7_isRing 9 = .ok (.if_icmp .ge 32, 3) := by decide +kernel
theorem dX7_isRing_12 : decode cX7_isRing 12 = .ok (.iload_n 1, 1) := by decide +kernel
theorem dX7_isRing_13 : decode cX7_isRing 13 = .ok (.ifCond .ne 16, 3) := by decide +kernel
theorem dX7_isRing_16 : decode cX7_isRing 16 = .ok (.aload_n 0, 1) := by decide +kernel
theorem dX7_isRing_17 : decode cX7_isRing 17 = .ok (.getfield 28, 3) := by decide +kernel
theorem dX7_isRing_20 : decode cX7_isRing 20 = .ok (.iload_n 2, 1) := by decide +kernel
theorem dX7_isRing_21 : decode cX7_isRing 21 = .ok (.iaload, 1) := by decide +kernel
theorem dX7_isRing_22 : decode cX7_isRing 22 = .ok (.iload_n 2, 1) := by decide +kernel
theorem dX7_isRing_23 : decode cX7_isRing 23 = .ok (.invokestatic 43, 3) := by decide +kernel
theorem dX7_isRing_26 : decode cX7_isRing 26 = .ok (.ifCond .eq 7, 3) := by decide +kernel
theorem dX7_isRing_29 : decode cX7_isRing 29 = .ok (.iconst 1, 1) := by decide +kernel
theorem dX7_isRing_30 : decode cX7_isRing 30 = .ok (.goto 4, 3) := by decide +kernel
theorem dX7_isRing_33 : decode cX7_isRing 33 = .ok (.iconst 0, 1) := by decide +kernel
theorem dX7_isRing_34 : decode cX7_isRing 34 = .ok (.istore_n 1, 1) := by decide +kernel
theorem dX7_isRing_35 : decode cX7_isRing 35 = .ok (.iinc 2 1, 3) := by decide +kernel
theorem dX7_isRing_38 : decode cX7_isRing 38 = .ok (.goto (-34), 3) := by decide +kernel
theorem dX7_isRing_41 : decode cX7_isRing 41 = .ok (.iload_n 1, 1) := by decide +kernel
theorem dX7_isRing_42 : decode cX7_isRing 42 = .ok (.ireturn, 1) := by decide +kernel
theorem dX7_layBack_0 : decode cX7_layBack 0 = .ok (.aload_n 0, 1) := by decide +kernel
theorem dX7_layBack_1 : decode cX7_layBack 1 = .ok (.getfield 37, 3) := by decide +kernel
theorem dX7_layBack_4 : decode cX7_layBack 4 = .ok (.iconst 0, 1) := by decide +kernel
theorem dX7_layBack_5 : decode cX7_layBack 5 = .ok (.iconst 1, 1) := by decide +kernel
theorem dX7_layBack_6 : decode cX7_layBack 6 = .ok (.iload_n 1, 1) := by decide +kernel
theorem dX7_layBack_7 : decode cX7_layBack 7 = .ok (.ishl, 1) := by decide +kernel
theorem dX7_layBack_8 : decode cX7_layBack 8 = .ok (.iastore, 1) := by decide +kernel
theorem dX7_layBack_9 : decode cX7_layBack 9 = .ok (.iconst 1, 1) := by decide +kernel
theorem dX7_layBack_10 : decode cX7_layBack 10 = .ok (.istore_n 3, 1) := by decide +kernel
theorem dX7_layBack_11 : decode cX7_layBack 11 = .ok (.iload_n 3, 1) := by decide +kernel
theorem dX7_layBack_12 : decode cX7_layBack 12 = .ok (.iload_n 2, 1) := by decide +kernel
theorem dX7_layBack_13 : decode cX7_layBack 13 = .ok (.if_icmp .gt 93, 3) := by decide +kernel
theorem dX7_layBack_16 : decode cX7_layBack 16 = .ok (.aload_n 0, 1) := by decide +kernel
theorem dX7_layBack_17 : decode cX7_layBack 17 = .ok (.getfield 37, 3) := by decide +kernel
theorem dX7_layBack_20 : decode cX7_layBack 20 = .ok (.iload_n 3, 1) := by decide +kernel
theorem dX7_layBack_21 : decode cX7_layBack 21 = .ok (.iconst 0, 1) := by decide +kernel
theorem dX7_layBack_22 : decode cX7_layBack 22 = .ok (.iastore, 1) := by decide +kernel
theorem dX7_layBack_23 : decode cX7_layBack 23 = .ok (.iload_n 1, 1) := by decide +kernel
theorem dX7_layBack_24 : decode cX7_layBack 24 = .ok (.istore 4, 2) := by decide +kernel
theorem dX7_layBack_26 : decode cX7_layBack 26 = .ok (.iload 4, 2) := by decide +kernel
theorem dX7_layBack_28 : decode cX7_layBack 28 = .ok (.aload_n 0, 1) := by decide +kernel
theorem dX7_layBack_29 : decode cX7_layBack 29 = .ok (.getfield 130, 3) := by decide +kernel
theorem dX7_layBack_32 : decode cX7_layBack 32 = .ok (.if_icmp .ge 68, 3) := by decide +kernel
theorem dX7_layBack_35 : decode cX7_layBack 35 = .ok (.aload_n 0, 1) := by decide +kernel
theorem dX7_layBack_36 : decode cX7_layBack 36 = .ok (.getfield 25, 3) := by decide +kernel
theorem dX7_layBack_39 : decode cX7_layBack 39 = .ok (.iload 4, 2) := by decide +kernel
theorem dX7_layBack_41 : decode cX7_layBack 41 = .ok (.iaload, 1) := by decide +kernel
theorem dX7_layBack_42 : decode cX7_layBack 42 = .ok (.aload_n 0, 1) := by decide +kernel
theorem dX7_layBack_43 : decode cX7_layBack 43 = .ok (.getfield 37, 3) := by decide +kernel
theorem dX7_layBack_46 : decode cX7_layBack 46 = .ok (.iload_n 3, 1) := by decide +kernel
theorem dX7_layBack_47 : decode cX7_layBack 47 = .ok (.iconst 1, 1) := by decide +kernel
theorem dX7_layBack_48 : decode cX7_layBack 48 = .ok (.isub, 1) := by decide +kernel
theorem dX7_layBack_49 : decode cX7_layBack 49 = .ok (.iaload, 1) := by decide +kernel
theorem dX7_layBack_50 : decode cX7_layBack 50 = .ok (.iand, 1) := by decide +kernel
theorem dX7_layBack_51 : decode cX7_layBack 51 = .ok (.ifCond .eq 18, 3) := by decide +kernel
theorem dX7_layBack_54 : decode cX7_layBack 54 = .ok (.iload 4, 2) := by decide +kernel
theorem dX7_layBack_56 : decode cX7_layBack 56 = .ok (.iload_n 1, 1) := by decide +kernel
theorem dX7_layBack_57 : decode cX7_layBack 57 = .ok (.if_icmp .gt 8, 3) := by decide +kernel
theorem dX7_layBack_60 : decode cX7_layBack 60 = .ok (.iload_n 3, 1) := by decide +kernel
theorem dX7_layBack_61 : decode cX7_layBack 61 = .ok (.iload_n 2, 1) := by decide +kernel
theorem dX7_layBack_62 : decode cX7_layBack 62 = .ok (.if_icmp .ne 7, 3) := by decide +kernel
theorem dX7_layBack_65 : decode cX7_layBack 65 = .ok (.iconst 1, 1) := by decide +kernel
theorem dX7_layBack_66 : decode cX7_layBack 66 = .ok (.goto 4, 3) := by decide +kernel
theorem dX7_layBack_69 : decode cX7_layBack 69 = .ok (.iconst 0, 1) := by decide +kernel
theorem dX7_layBack_70 : decode cX7_layBack 70 = .ok (.istore 5, 2) := by decide +kernel
theorem dX7_layBack_72 : decode cX7_layBack 72 = .ok (.aload_n 0, 1) := by decide +kernel
theorem dX7_layBack_73 : decode cX7_layBack 73 = .ok (.getfield 37, 3) := by decide +kernel
theorem dX7_layBack_76 : decode cX7_layBack 76 = .ok (.iload_n 3, 1) := by decide +kernel
theorem dX7_layBack_77 : decode cX7_layBack 77 = .ok (.dup2, 1) := by decide +kernel
theorem dX7_layBack_78 : decode cX7_layBack 78 = .ok (.iaload, 1) := by decide +kernel
theorem dX7_layBack_79 : decode cX7_layBack 79 = .ok (.iload 5, 2) := by decide +kernel
theorem dX7_layBack_81 : decode cX7_layBack 81 = .ok (.ifCond .eq 10, 3) := by decide +kernel
theorem dX7_layBack_84 : decode cX7_layBack 84 = .ok (.iconst 1, 1) := by decide +kernel
theorem dX7_layBack_85 : decode cX7_layBack 85 = .ok (.iload 4, 2) := by decide +kernel
theorem dX7_layBack_87 : decode cX7_layBack 87 = .ok (.ishl, 1) := by decide +kernel
theorem dX7_layBack_88 : decode cX7_layBack 88 = .ok (.goto 4, 3) := by decide +kernel
theorem dX7_layBack_91 : decode cX7_layBack 91 = .ok (.iconst 0, 1) := by decide +kernel
theorem dX7_layBack_92 : decode cX7_layBack 92 = .ok (.ior, 1) := by decide +kernel
theorem dX7_layBack_93 : decode cX7_layBack 93 = .ok (.iastore, 1) := by decide +kernel
theorem dX7_layBack_94 : decode cX7_layBack 94 = .ok (.iinc 4 1, 3) := by decide +kernel
theorem dX7_layBack_97 : decode cX7_layBack 97 = .ok (.goto (-71), 3) := by decide +kernel
theorem dX7_layBack_100 : decode cX7_layBack 100 = .ok (.iinc 3 1, 3) := by decide +kernel
theorem dX7_layBack_103 : decode cX7_layBack 103 = .ok (.goto (-92), 3) := by decide +kernel
theorem dX7_layBack_106 : decode cX7_layBack 106 = .ok (.aload_n 0, 1) := by decide +kernel
theorem dX7_layBack_107 : decode cX7_layBack 107 = .ok (.getfield 37, 3) := by decide +kernel
theorem dX7_layBack_110 : decode cX7_layBack 110 = .ok (.iload_n 2, 1) := by decide +kernel
theorem dX7_layBack_111 : decode cX7_layBack 111 = .ok (.iaload, 1) := by decide +kernel
theorem dX7_layBack_112 : decode cX7_layBack 112 = .ok (.iload_n 1, 1) := by decide +kernel
theorem dX7_layBack_113 : decode cX7_layBack 113 = .ok (.invokestatic 43, 3) := by decide +kernel
theorem dX7_layBack_116 : decode cX7_layBack 116 = .ok (.ireturn, 1) := by decide +kernel
theorem dX7_findRing_0 : decode cX7_findRing 0 = .ok (.iconst 0, 1) := by decide +kernel
theorem dX7_findRing_1 : decode cX7_findRing 1 = .ok (.istore_n 2, 1) := by decide +kernel
theorem dX7_findRing_2 : decode cX7_findRing 2 = .ok (.iload_n 2, 1) := by decide +kernel
theorem dX7_findRing_3 : decode cX7_findRing 3 = .ok (.aload_n 0, 1) := by decide +kernel
theorem dX7_findRing_4 : decode cX7_findRing 4 = .ok (.getfield 130, 3) := by decide +kernel
theorem dX7_findRing_7 : decode cX7_findRing 7 = .ok (.if_icmp .ge 76, 3) := by decide +kernel
theorem dX7_findRing_10 : decode cX7_findRing 10 = .ok (.aload_n 0, 1) := by decide +kernel
theorem dX7_findRing_11 : decode cX7_findRing 11 = .ok (.iload_n 2, 1) := by decide +kernel
theorem dX7_findRing_12 : decode cX7_findRing 12 = .ok (.iload_n 1, 1) := by decide +kernel
theorem dX7_findRing_13 : decode cX7_findRing 13 = .ok (.invokevirtual 153, 3) := by decide +kernel
theorem dX7_findRing_16 : decode cX7_findRing 16 = .ok (.ifCond .eq 61, 3) := by decide +kernel
theorem dX7_findRing_19 : decode cX7_findRing 19 = .ok (.aload_n 0, 1) := by decide +kernel
theorem dX7_findRing_20 : decode cX7_findRing 20 = .ok (.iload_n 1, 1) := by decide +kernel
theorem dX7_findRing_21 : decode cX7_findRing 21 = .ok (.putfield 156, 3) := by decide +kernel
theorem dX7_findRing_24 : decode cX7_findRing 24 = .ok (.aload_n 0, 1) := by decide +kernel
theorem dX7_findRing_25 : decode cX7_findRing 25 = .ok (.getfield 31, 3) := by decide +kernel
theorem dX7_findRing_28 : decode cX7_findRing 28 = .ok (.iconst 0, 1) := by decide +kernel
theorem dX7_findRing_29 : decode cX7_findRing 29 = .ok (.iload_n 2, 1) := by decide +kernel
theorem dX7_findRing_30 : decode cX7_findRing 30 = .ok (.iastore, 1) := by decide +kernel
theorem dX7_findRing_31 : decode cX7_findRing 31 = .ok (.iconst 1, 1) := by decide +kernel
theorem dX7_findRing_32 : decode cX7_findRing 32 = .ok (.istore_n 3, 1) := by decide +kernel
theorem dX7_findRing_33 : decode cX7_findRing 33 = .ok (.iload_n 3, 1) := by decide +kernel
theorem dX7_findRing_34 : decode cX7_findRing 34 = .ok (.iload_n 1, 1) := by decide +kernel
theorem dX7_findRing_35 : decode cX7_findRing 35 = .ok (.if_icmp .ge 40, 3) := by decide +kernel
theorem dX7_findRing_38 : decode cX7_findRing 38 = .ok (.aload_n 0, 1) := by decide +kernel
theorem dX7_findRing_39 : decode cX7_findRing 39 = .ok (.getfield 31, 3) := by decide +kernel
theorem dX7_findRing_42 : decode cX7_findRing 42 = .ok (.iload_n 3, 1) := by decide +kernel
theorem dX7_findRing_43 : decode cX7_findRing 43 = .ok (.aload_n 0, 1) := by decide +kernel
theorem dX7_findRing_44 : decode cX7_findRing 44 = .ok (.getfield 25, 3) := by decide +kernel
theorem dX7_findRing_47 : decode cX7_findRing 47 = .ok (.aload_n 0, 1) := by decide +kernel
theorem dX7_findRing_48 : decode cX7_findRing 48 = .ok (.getfield 31, 3) := by decide +kernel
theorem dX7_findRing_51 : decode cX7_findRing 51 = .ok (.iload_n 3, 1) := by decide +kernel
theorem dX7_findRing_52 : decode cX7_findRing 52 = .ok (.iconst 1, 1) := by decide +kernel
theorem dX7_findRing_53 : decode cX7_findRing 53 = .ok (.isub, 1) := by decide +kernel
theorem dX7_findRing_54 : decode cX7_findRing 54 = .ok (.iaload, 1) := by decide +kernel
theorem dX7_findRing_55 : decode cX7_findRing 55 = .ok (.iaload, 1) := by decide +kernel
theorem dX7_findRing_56 : decode cX7_findRing 56 = .ok (.aload_n 0, 1) := by decide +kernel
theorem dX7_findRing_57 : decode cX7_findRing 57 = .ok (.getfield 37, 3) := by decide +kernel
theorem dX7_findRing_60 : decode cX7_findRing 60 = .ok (.iload_n 1, 1) := by decide +kernel
theorem dX7_findRing_61 : decode cX7_findRing 61 = .ok (.iload_n 3, 1) := by decide +kernel
theorem dX7_findRing_62 : decode cX7_findRing 62 = .ok (.isub, 1) := by decide +kernel
theorem dX7_findRing_63 : decode cX7_findRing 63 = .ok (.iaload, 1) := by decide +kernel
theorem dX7_findRing_64 : decode cX7_findRing 64 = .ok (.iand, 1) := by decide +kernel
theorem dX7_findRing_65 : decode cX7_findRing 65 = .ok (.invokestatic 159, 3) := by decide +kernel
theorem dX7_findRing_68 : decode cX7_findRing 68 = .ok (.iastore, 1) := by decide +kernel
theorem dX7_findRing_69 : decode cX7_findRing 69 = .ok (.iinc 3 1, 3) := by decide +kernel
theorem dX7_findRing_72 : decode cX7_findRing 72 = .ok (.goto (-39), 3) := by decide +kernel
theorem dX7_findRing_75 : decode cX7_findRing 75 = .ok (.iconst 1, 1) := by decide +kernel
theorem dX7_findRing_76 : decode cX7_findRing 76 = .ok (.ireturn, 1) := by decide +kernel
theorem dX7_findRing_77 : decode cX7_findRing 77 = .ok (.iinc 2 1, 3) := by decide +kernel
theorem dX7_findRing_80 : decode cX7_findRing 80 = .ok (.goto (-78), 3) := by decide +kernel
theorem dX7_findRing_83 : decode cX7_findRing 83 = .ok (.iconst 0, 1) := by decide +kernel
theorem dX7_findRing_84 : decode cX7_findRing 84 = .ok (.ireturn, 1) := by decide +kernel
theorem dX7_layRing_0 : decode cX7_layRing 0 = .ok (.aload_n 0, 1) := by decide +kernel
theorem dX7_layRing_1 : decode cX7_layRing 1 = .ok (.iconst 0, 1) := by decide +kernel
theorem dX7_layRing_2 : decode cX7_layRing 2 = .ok (.putfield 156, 3) := by decide +kernel
theorem dX7_layRing_5 : decode cX7_layRing 5 = .ok (.iconst 2, 1) := by decide +kernel
theorem dX7_layRing_6 : decode cX7_layRing 6 = .ok (.istore_n 1, 1) := by decide +kernel
theorem dX7_layRing_7 : decode cX7_layRing 7 = .ok (.aload_n 0, 1) := by decide +kernel
theorem dX7_layRing_8 : decode cX7_layRing 8 = .ok (.invokevirtual 162, 3) := by decide +kernel
theorem dX7_layRing_11 : decode cX7_layRing 11 = .ok (.ifCond .eq 25, 3) := by decide +kernel
theorem dX7_layRing_14 : decode cX7_layRing 14 = .ok (.iload_n 1, 1) := by decide +kernel
theorem dX7_layRing_15 : decode cX7_layRing 15 = .ok (.aload_n 0, 1) := by decide +kernel
theorem dX7_layRing_16 : decode cX7_layRing 16 = .ok (.getfield 130, 3) := by decide +kernel
theorem dX7_layRing_19 : decode cX7_layRing 19 = .ok (.if_icmp .gt 17, 3) := by decide +kernel
theorem dX7_layRing_22 : decode cX7_layRing 22 = .ok (.aload_n 0, 1) := by decide +kernel
theorem dX7_layRing_23 : decode cX7_layRing 23 = .ok (.iload_n 1, 1) := by decide +kernel
theorem dX7_layRing_24 : decode cX7_layRing 24 = .ok (.invokevirtual 166, 3) := by decide +kernel
theorem dX7_layRing_27 : decode cX7_layRing 27 = .ok (.ifCond .ne 9, 3) := by decide +kernel
theorem dX7_layRing_30 : decode cX7_layRing 30 = .ok (.iinc 1 1, 3) := by decide +kernel
theorem dX7_layRing_33 : decode cX7_layRing 33 = .ok (.goto (-26), 3) := by decide +kernel
theorem dX7_layRing_36 : decode cX7_layRing 36 = .ok (.return_, 1) := by decide +kernel
theorem dX7_layNow_0 : decode cX7_layNow 0 = .ok (.aload_n 0, 1) := by decide +kernel
theorem dX7_layNow_1 : decode cX7_layNow 1 = .ok (.aload_n 0, 1) := by decide +kernel
theorem dX7_layNow_2 : decode cX7_layNow 2 = .ok (.getfield 93, 3) := by decide +kernel
theorem dX7_layNow_5 : decode cX7_layNow 5 = .ok (.invokevirtual 169, 3) := by decide +kernel
theorem dX7_layNow_8 : decode cX7_layNow 8 = .ok (.aload_n 0, 1) := by decide +kernel
theorem dX7_layNow_9 : decode cX7_layNow 9 = .ok (.invokevirtual 173, 3) := by decide +kernel
theorem dX7_layNow_12 : decode cX7_layNow 12 = .ok (.return_, 1) := by decide +kernel
theorem dX7_layNew_0 : decode cX7_layNew 0 = .ok (.aload_n 0, 1) := by decide +kernel
theorem dX7_layNew_1 : decode cX7_layNew 1 = .ok (.invokevirtual 176, 3) := by decide +kernel
theorem dX7_layNew_4 : decode cX7_layNew 4 = .ok (.iconst 0, 1) := by decide +kernel
theorem dX7_layNew_5 : decode cX7_layNew 5 = .ok (.istore_n 1, 1) := by decide +kernel
theorem dX7_layNew_6 : decode cX7_layNew 6 = .ok (.iload_n 1, 1) := by decide +kernel
theorem dX7_layNew_7 : decode cX7_layNew 7 = .ok (.bipush 14, 2) := by decide +kernel
theorem dX7_layNew_9 : decode cX7_layNew 9 = .ok (.if_icmp .ge 16, 3) := by decide +kernel
theorem dX7_layNew_12 : decode cX7_layNew 12 = .ok (.aload_n 0, 1) := by decide +kernel
theorem dX7_layNew_13 : decode cX7_layNew 13 = .ok (.getfield 22, 3) := by decide +kernel
theorem dX7_layNew_16 : decode cX7_layNew 16 = .ok (.iload_n 1, 1) := by decide +kernel
theorem dX7_layNew_17 : decode cX7_layNew 17 = .ok (.iconst (-1), 1) := by decide +kernel
theorem dX7_layNew_18 : decode cX7_layNew 18 = .ok (.iastore, 1) := by decide +kernel
theorem dX7_layNew_19 : decode cX7_layNew 19 = .ok (.iinc 1 1, 3) := by decide +kernel
theorem dX7_layNew_22 : decode cX7_layNew 22 = .ok (.goto (-16), 3) := by decide +kernel
theorem dX7_layNew_25 : decode cX7_layNew 25 = .ok (.return_, 1) := by decide +kernel
theorem dX7_channel_0 : decode cX7_channel 0 = .ok (.aload_n 0, 1) := by decide +kernel
theorem dX7_channel_1 : decode cX7_channel 1 = .ok (.invokevirtual 80, 3) := by decide +kernel
theorem dX7_channel_4 : decode cX7_channel 4 = .ok (.pop, 1) := by decide +kernel
theorem dX7_channel_5 : decode cX7_channel 5 = .ok (.aload_n 0, 1) := by decide +kernel
theorem dX7_channel_6 : decode cX7_channel 6 = .ok (.getfield 59, 3) := by decide +kernel
theorem dX7_channel_9 : decode cX7_channel 9 = .ok (.ifCond .ne 6, 3) := by decide +kernel
theorem dX7_channel_12 : decode cX7_channel 12 = .ok (.bipush (-103), 2) := by decide +kernel
theorem dX7_channel_14 : decode cX7_channel 14 = .ok (.ireturn, 1) := by decide +kernel
theorem dX7_channel_15 : decode cX7_channel 15 = .ok (.aload_n 0, 1) := by decide +kernel
theorem dX7_channel_16 : decode cX7_channel 16 = .ok (.aload_n 0, 1) := by decide +kernel
theorem dX7_channel_17 : decode cX7_channel 17 = .ok (.getfield 67, 3) := by decide +kernel
theorem dX7_channel_20 : decode cX7_channel 20 = .ok (.putfield 87, 3) := by decide +kernel
theorem dX7_channel_23 : decode cX7_channel 23 = .ok (.iconst 0, 1) := by decide +kernel
theorem dX7_channel_24 : decode cX7_channel 24 = .ok (.istore_n 1, 1) := by decide +kernel
theorem dX7_channel_25 : decode cX7_channel 25 = .ok (.iload_n 1, 1) := by decide +kernel
theorem dX7_channel_26 : decode cX7_channel 26 = .ok (.aload_n 0, 1) := by decide +kernel
theorem dX7_channel_27 : decode cX7_channel 27 = .ok (.getfield 87, 3) := by decide +kernel
theorem dX7_channel_30 : decode cX7_channel 30 = .ok (.if_icmp .ge 52, 3) := by decide +kernel
theorem dX7_channel_33 : decode cX7_channel 33 = .ok (.aload_n 0, 1) := by decide +kernel
theorem dX7_channel_34 : decode cX7_channel 34 = .ok (.getfield 7, 3) := by decide +kernel
theorem dX7_channel_37 : decode cX7_channel 37 = .ok (.iconst 2, 1) := by decide +kernel
theorem dX7_channel_38 : decode cX7_channel 38 = .ok (.iload_n 1, 1) := by decide +kernel
theorem dX7_channel_39 : decode cX7_channel 39 = .ok (.imul, 1) := by decide +kernel
theorem dX7_channel_40 : decode cX7_channel 40 = .ok (.aload_n 0, 1) := by decide +kernel
theorem dX7_channel_41 : decode cX7_channel 41 = .ok (.getfield 34, 3) := by decide +kernel
theorem dX7_channel_44 : decode cX7_channel 44 = .ok (.iload_n 1, 1) := by decide +kernel
theorem dX7_channel_45 : decode cX7_channel 45 = .ok (.iaload, 1) := by decide +kernel
theorem dX7_channel_46 : decode cX7_channel 46 = .ok (.invokestatic 90, 3) := by decide +kernel
theorem dX7_channel_49 : decode cX7_channel 49 = .ok (.iastore, 1) := by decide +kernel
theorem dX7_channel_50 : decode cX7_channel 50 = .ok (.aload_n 0, 1) := by decide +kernel
theorem dX7_channel_51 : decode cX7_channel 51 = .ok (.getfield 7, 3) := by decide +kernel
theorem dX7_channel_54 : decode cX7_channel 54 = .ok (.iconst 2, 1) := by decide +kernel
theorem dX7_channel_55 : decode cX7_channel 55 = .ok (.iload_n 1, 1) := by decide +kernel
theorem dX7_channel_56 : decode cX7_channel 56 = .ok (.imul, 1) := by decide +kernel
theorem dX7_channel_57 : decode cX7_channel 57 = .ok (.iconst 1, 1) := by decide +kernel
theorem dX7_channel_58 : decode cX7_channel 58 = .ok (.iadd, 1) := by decide +kernel
theorem dX7_channel_59 : decode cX7_channel 59 = .ok (.aload_n 0, 1) := by decide +kernel
theorem dX7_channel_60 : decode cX7_channel 60 = .ok (.getfield 34, 3) := by decide +kernel
theorem dX7_channel_63 : decode cX7_channel 63 = .ok (.aload_n 0, 1) := by decide +kernel
theorem dX7_channel_64 : decode cX7_channel 64 = .ok (.getfield 87, 3) := by decide +kernel
theorem dX7_channel_67 : decode cX7_channel 67 = .ok (.iconst 1, 1) := by decide +kernel
theorem dX7_channel_68 : decode cX7_channel 68 = .ok (.iadd, 1) := by decide +kernel
theorem dX7_channel_69 : decode cX7_channel 69 = .ok (.iload_n 1, 1) := by decide +kernel
theorem dX7_channel_70 : decode cX7_channel 70 = .ok (.iadd, 1) := by decide +kernel
theorem dX7_channel_71 : decode cX7_channel 71 = .ok (.iaload, 1) := by decide +kernel
theorem dX7_channel_72 : decode cX7_channel 72 = .ok (.invokestatic 90, 3) := by decide +kernel
theorem dX7_channel_75 : decode cX7_channel 75 = .ok (.iastore, 1) := by decide +kernel
theorem dX7_channel_76 : decode cX7_channel 76 = .ok (.iinc 1 1, 3) := by decide +kernel
theorem dX7_channel_79 : decode cX7_channel 79 = .ok (.goto (-54), 3) := by decide +kernel
theorem dX7_channel_82 : decode cX7_channel 82 = .ok (.aload_n 0, 1) := by decide +kernel
theorem dX7_channel_83 : decode cX7_channel 83 = .ok (.iconst 0, 1) := by decide +kernel
theorem dX7_channel_84 : decode cX7_channel 84 = .ok (.putfield 93, 3) := by decide +kernel
theorem dX7_channel_87 : decode cX7_channel 87 = .ok (.aload_n 0, 1) := by decide +kernel
theorem dX7_channel_88 : decode cX7_channel 88 = .ok (.dup, 1) := by decide +kernel
theorem dX7_channel_89 : decode cX7_channel 89 = .ok (.getfield 96, 3) := by decide +kernel
theorem dX7_channel_92 : decode cX7_channel 92 = .ok (.iconst 1, 1) := by decide +kernel
