theorem dX0_netOf_0 : decode cX0_netOf 0 = .ok (.aload_n 0, 1) := by decide +kernel
theorem dX0_netOf_1 : decode cX0_netOf 1 = .ok (.getfield 9, 3) := by decide +kernel
theorem dX0_netOf_4 : decode cX0_netOf 4 = .ok (.iconst 2, 1) := by decide +kernel
theorem dX0_netOf_5 : decode cX0_netOf 5 = .ok (.iload_n 1, 1) := by decide +kernel
theorem dX0_netOf_6 : decode cX0_netOf 6 = .ok (.imul, 1) := by decide +kernel
theorem dX0_netOf_7 : decode cX0_netOf 7 = .ok (.iload_n 2, 1) := by decide +kernel
theorem dX0_netOf_8 : decode cX0_netOf 8 = .ok (.iadd, 1) := by decide +kernel
theorem dX0_netOf_9 : decode cX0_netOf 9 = .ok (.iaload, 1) := by decide +kernel
theorem dX0_netOf_10 : decode cX0_netOf 10 = .ok (.ireturn, 1) := by decide +kernel
theorem dX0_change_0 : decode cX0_change 0 = .ok (.aload_n 0, 1) := by decide +kernel
theorem dX0_change_1 : decode cX0_change 1 = .ok (.getfield 9, 3) := by decide +kernel
theorem dX0_change_4 : decode cX0_change 4 = .ok (.iconst 2, 1) := by decide +kernel
theorem dX0_change_5 : decode cX0_change 5 = .ok (.iload_n 1, 1) := by decide +kernel
theorem dX0_change_6 : decode cX0_change 6 = .ok (.imul, 1) := by decide +kernel
theorem dX0_change_7 : decode cX0_change 7 = .ok (.iload_n 2, 1) := by decide +kernel
theorem dX0_change_8 : decode cX0_change 8 = .ok (.iadd, 1) := by decide +kernel
theorem dX0_change_9 : decode cX0_change 9 = .ok (.iload_n 3, 1) := by decide +kernel
theorem dX0_change_10 : decode cX0_change 10 = .ok (.iastore, 1) := by decide +kernel
theorem dX0_change_11 : decode cX0_change 11 = .ok (.return_, 1) := by decide +kernel
theorem dX0_columnsWith_0 : decode cX0_columnsWith 0 = .ok (.iconst 0, 1) := by decide +kernel
theorem dX0_columnsWith_1 : decode cX0_columnsWith 1 = .ok (.istore_n 2, 1) := by decide +kernel
theorem dX0_columnsWith_2 : decode cX0_columnsWith 2 = .ok (.iconst 0, 1) := by decide +kernel
theorem dX0_columnsWith_3 : decode cX0_columnsWith 3 = .ok (.istore_n 3, 1) := by decide +kernel
theorem dX0_columnsWith_4 : decode cX0_columnsWith 4 = .ok (.iload_n 3, 1) := by decide +kernel
theorem dX0_columnsWith_5 : decode cX0_columnsWith 5 = .ok (.aload_n 0, 1) := by decide +kernel
theorem dX0_columnsWith_6 : decode cX0_columnsWith 6 = .ok (.getfield 15, 3) := by decide +kernel
theorem dX0_columnsWith_9 : decode cX0_columnsWith 9 = .ok (.if_icmp .ge 35, 3) := by decide +kernel
theorem dX0_columnsWith_12 : decode cX0_columnsWith 12 = .ok (.aload_n 0, 1) := by decide +kernel
theorem dX0_columnsWith_13 : decode cX0_columnsWith 13 = .ok (.iload_n 3, 1) := by decide +kernel
theorem dX0_columnsWith_14 : decode cX0_columnsWith 14 = .ok (.iconst 0, 1) := by decide +kernel
theorem dX0_columnsWith_15 : decode cX0_columnsWith 15 = .ok (.invokevirtual 19, 3) := by decide +kernel
theorem dX0_columnsWith_18 : decode cX0_columnsWith 18 = .ok (.iload_n 1, 1) := by decide +kernel
theorem dX0_columnsWith_19 : decode cX0_columnsWith 19 = .ok (.if_icmp .eq 13, 3) := by decide +kernel
theorem dX0_columnsWith_22 : decode cX0_columnsWith 22 = .ok (.aload_n 0, 1) := by decide +kernel
theorem dX0_columnsWith_23 : decode cX0_columnsWith 23 = .ok (.iload_n 3, 1) := by decide +kernel
theorem dX0_columnsWith_24 : decode cX0_columnsWith 24 = .ok (.iconst 1, 1) := by decide +kernel
theorem dX0_columnsWith_25 : decode cX0_columnsWith 25 = .ok (.invokevirtual 19, 3) := by decide +kernel
theorem dX0_columnsWith_28 : decode cX0_columnsWith 28 = .ok (.iload_n 1, 1) := by decide +kernel
theorem dX0_columnsWith_29 : decode cX0_columnsWith 29 = .ok (.if_icmp .ne 9, 3) := by decide +kernel
theorem dX0_columnsWith_32 : decode cX0_columnsWith 32 = .ok (.iload_n 2, 1) := by decide +kernel
theorem dX0_columnsWith_33 : decode cX0_columnsWith 33 = .ok (.iconst 1, 1) := by decide +kernel
theorem dX0_columnsWith_34 : decode cX0_columnsWith 34 = .ok (.iload_n 3, 1) := by decide +kernel
theorem dX0_columnsWith_35 : decode cX0_columnsWith 35 = .ok (.ishl, 1) := by decide +kernel
theorem dX0_columnsWith_36 : decode cX0_columnsWith 36 = .ok (.ior, 1) := by decide +kernel
theorem dX0_columnsWith_37 : decode cX0_columnsWith 37 = .ok (.istore_n 2, 1) := by decide +kernel
theorem dX0_columnsWith_38 : decode cX0_columnsWith 38 = .ok (.iinc 3 1, 3) := by decide +kernel
theorem dX0_columnsWith_41 : decode cX0_columnsWith 41 = .ok (.goto (-37), 3) := by decide +kernel
theorem dX0_columnsWith_44 : decode cX0_columnsWith 44 = .ok (.iload_n 2, 1) := by decide +kernel
theorem dX0_columnsWith_45 : decode cX0_columnsWith 45 = .ok (.ireturn, 1) := by decide +kernel
theorem dX0_pinsOf_0 : decode cX0_pinsOf 0 = .ok (.iconst 0, 1) := by decide +kernel
theorem dX0_pinsOf_1 : decode cX0_pinsOf 1 = .ok (.istore_n 2, 1) := by decide +kernel
theorem dX0_pinsOf_2 : decode cX0_pinsOf 2 = .ok (.iconst 0, 1) := by decide +kernel
theorem dX0_pinsOf_3 : decode cX0_pinsOf 3 = .ok (.istore_n 3, 1) := by decide +kernel
theorem dX0_pinsOf_4 : decode cX0_pinsOf 4 = .ok (.iload_n 3, 1) := by decide +kernel
theorem dX0_pinsOf_5 : decode cX0_pinsOf 5 = .ok (.iconst 2, 1) := by decide +kernel
theorem dX0_pinsOf_6 : decode cX0_pinsOf 6 = .ok (.aload_n 0, 1) := by decide +kernel
theorem dX0_pinsOf_7 : decode cX0_pinsOf 7 = .ok (.getfield 15, 3) := by decide +kernel
theorem dX0_pinsOf_10 : decode cX0_pinsOf 10 = .ok (.imul, 1) := by decide +kernel
theorem dX0_pinsOf_11 : decode cX0_pinsOf 11 = .ok (.if_icmp .ge 22, 3) := by decide +kernel
theorem dX0_pinsOf_14 : decode cX0_pinsOf 14 = .ok (.aload_n 0, 1) := by decide +kernel
theorem dX0_pinsOf_15 : decode cX0_pinsOf 15 = .ok (.getfield 9, 3) := by decide +kernel
theorem dX0_pinsOf_18 : decode cX0_pinsOf 18 = .ok (.iload_n 3, 1) := by decide +kernel
theorem dX0_pinsOf_19 : decode cX0_pinsOf 19 = .ok (.iaload, 1) := by decide +kernel
theorem dX0_pinsOf_20 : decode cX0_pinsOf 20 = .ok (.iload_n 1, 1) := by decide +kernel
theorem dX0_pinsOf_21 : decode cX0_pinsOf 21 = .ok (.if_icmp .ne 6, 3) := by decide +kernel
theorem dX0_pinsOf_24 : decode cX0_pinsOf 24 = .ok (.iinc 2 1, 3) := by decide +kernel
theorem dX0_pinsOf_27 : decode cX0_pinsOf 27 = .ok (.iinc 3 1, 3) := by decide +kernel
theorem dX0_pinsOf_30 : decode cX0_pinsOf 30 = .ok (.goto (-26), 3) := by decide +kernel
theorem dX0_pinsOf_33 : decode cX0_pinsOf 33 = .ok (.iload_n 2, 1) := by decide +kernel
theorem dX0_pinsOf_34 : decode cX0_pinsOf 34 = .ok (.ireturn, 1) := by decide +kernel
theorem dX0_pinsOfNets_0 : decode cX0_pinsOfNets 0 = .ok (.iconst 2, 1) := by decide +kernel
theorem dX0_pinsOfNets_1 : decode cX0_pinsOfNets 1 = .ok (.aload_n 0, 1) := by decide +kernel
theorem dX0_pinsOfNets_2 : decode cX0_pinsOfNets 2 = .ok (.getfield 15, 3) := by decide +kernel
theorem dX0_pinsOfNets_5 : decode cX0_pinsOfNets 5 = .ok (.imul, 1) := by decide +kernel
theorem dX0_pinsOfNets_6 : decode cX0_pinsOfNets 6 = .ok (.aload_n 0, 1) := by decide +kernel
theorem dX0_pinsOfNets_7 : decode cX0_pinsOfNets 7 = .ok (.iconst (-1), 1) := by decide +kernel
theorem dX0_pinsOfNets_8 : decode cX0_pinsOfNets 8 = .ok (.invokevirtual 23, 3) := by decide +kernel
theorem dX0_pinsOfNets_11 : decode cX0_pinsOfNets 11 = .ok (.isub, 1) := by decide +kernel
theorem dX0_pinsOfNets_12 : decode cX0_pinsOfNets 12 = .ok (.ireturn, 1) := by decide +kernel
theorem dX0_nets_0 : decode cX0_nets 0 = .ok (.iconst 0, 1) := by decide +kernel
theorem dX0_nets_1 : decode cX0_nets 1 = .ok (.istore_n 1, 1) := by decide +kernel
theorem dX0_nets_2 : decode cX0_nets 2 = .ok (.iconst 0, 1) := by decide +kernel
theorem dX0_nets_3 : decode cX0_nets 3 = .ok (.istore_n 2, 1) := by decide +kernel
theorem dX0_nets_4 : decode cX0_nets 4 = .ok (.iload_n 2, 1) := by decide +kernel
theorem dX0_nets_5 : decode cX0_nets 5 = .ok (.bipush 6, 2) := by decide +kernel
theorem dX0_nets_7 : decode cX0_nets 7 = .ok (.if_icmp .ge 20, 3) := by decide +kernel
theorem dX0_nets_10 : decode cX0_nets 10 = .ok (.aload_n 0, 1) := by decide +kernel
theorem dX0_nets_11 : decode cX0_nets 11 = .ok (.iload_n 2, 1) := by decide +kernel
theorem dX0_nets_12 : decode cX0_nets 12 = .ok (.invokevirtual 27, 3) := by decide +kernel
theorem dX0_nets_15 : decode cX0_nets 15 = .ok (.ifCond .eq 6, 3) := by decide +kernel
theorem dX0_nets_18 : decode cX0_nets 18 = .ok (.iinc 1 1, 3) := by decide +kernel
theorem dX0_nets_21 : decode cX0_nets 21 = .ok (.iinc 2 1, 3) := by decide +kernel
theorem dX0_nets_24 : decode cX0_nets 24 = .ok (.goto (-20), 3) := by decide +kernel
theorem dX0_nets_27 : decode cX0_nets 27 = .ok (.iload_n 1, 1) := by decide +kernel
theorem dX0_nets_28 : decode cX0_nets 28 = .ok (.ireturn, 1) := by decide +kernel
theorem dJ6_bitCount_0f7a4_0 : decode cJ6_bitCount_0f7a4 0 = .ok (.iload_n 0, 1) := by decide +kernel
theorem dJ6_bitCount_0f7a4_1 : decode cJ6_bitCount_0f7a4 1 = .ok (.iload_n 0, 1) := by decide +kernel
theorem dJ6_bitCount_0f7a4_2 : decode cJ6_bitCount_0f7a4 2 = .ok (.iconst 1, 1) := by decide +kernel
theorem dJ6_bitCount_0f7a4_3 : decode cJ6_bitCount_0f7a4 3 = .ok (.iushr, 1) := by decide +kernel
theorem dJ6_bitCount_0f7a4_4 : decode cJ6_bitCount_0f7a4 4 = .ok (.ldc_w 265, 3) := by decide +kernel
theorem dJ6_bitCount_0f7a4_7 : decode cJ6_bitCount_0f7a4 7 = .ok (.iand, 1) := by decide +kernel
theorem dJ6_bitCount_0f7a4_8 : decode cJ6_bitCount_0f7a4 8 = .ok (.isub, 1) := by decide +kernel
theorem dJ6_bitCount_0f7a4_9 : decode cJ6_bitCount_0f7a4 9 = .ok (.istore_n 0, 1) := by decide +kernel
theorem dJ6_bitCount_0f7a4_10 : decode cJ6_bitCount_0f7a4 10 = .ok (.iload_n 0, 1) := by decide +kernel
theorem dJ6_bitCount_0f7a4_11 : decode cJ6_bitCount_0f7a4 11 = .ok (.ldc_w 266, 3) := by decide +kernel
theorem dJ6_bitCount_0f7a4_14 : decode cJ6_bitCount_0f7a4 14 = .ok (.iand, 1) := by decide +kernel
theorem dJ6_bitCount_0f7a4_15 : decode cJ6_bitCount_0f7a4 15 = .ok (.iload_n 0, 1) := by decide +kernel
theorem dJ6_bitCount_0f7a4_16 : decode cJ6_bitCount_0f7a4 16 = .ok (.iconst 2, 1) := by decide +kernel
theorem dJ6_bitCount_0f7a4_17 : decode cJ6_bitCount_0f7a4 17 = .ok (.iushr, 1) := by decide +kernel
theorem dJ6_bitCount_0f7a4_18 : decode cJ6_bitCount_0f7a4 18 = .ok (.ldc_w 266, 3) := by decide +kernel
theorem dJ6_bitCount_0f7a4_21 : decode cJ6_bitCount_0f7a4 21 = .ok (.iand, 1) := by decide +kernel
theorem dJ6_bitCount_0f7a4_22 : decode cJ6_bitCount_0f7a4 22 = .ok (.iadd, 1) := by decide +kernel
theorem dJ6_bitCount_0f7a4_23 : decode cJ6_bitCount_0f7a4 23 = .ok (.istore_n 0, 1) := by decide +kernel
theorem dJ6_bitCount_0f7a4_24 : decode cJ6_bitCount_0f7a4 24 = .ok (.iload_n 0, 1) := by decide +kernel
theorem dJ6_bitCount_0f7a4_25 : decode cJ6_bitCount_0f7a4 25 = .ok (.iload_n 0, 1) := by decide +kernel
theorem dJ6_bitCount_0f7a4_26 : decode cJ6_bitCount_0f7a4 26 = .ok (.iconst 4, 1) := by decide +kernel
theorem dJ6_bitCount_0f7a4_27 : decode cJ6_bitCount_0f7a4 27 = .ok (.iushr, 1) := by decide +kernel
theorem dJ6_bitCount_0f7a4_28 : decode cJ6_bitCount_0f7a4 28 = .ok (.iadd, 1) := by decide +kernel
theorem dJ6_bitCount_0f7a4_29 : decode cJ6_bitCount_0f7a4 29 = .ok (.ldc_w 267, 3) := by decide +kernel
theorem dJ6_bitCount_0f7a4_32 : decode cJ6_bitCount_0f7a4 32 = .ok (.iand, 1) := by decide +kernel
theorem dJ6_bitCount_0f7a4_33 : decode cJ6_bitCount_0f7a4 33 = .ok (.istore_n 0, 1) := by decide +kernel
theorem dJ6_bitCount_0f7a4_34 : decode cJ6_bitCount_0f7a4 34 = .ok (.iload_n 0, 1) := by decide +kernel
theorem dJ6_bitCount_0f7a4_35 : decode cJ6_bitCount_0f7a4 35 = .ok (.iload_n 0, 1) := by decide +kernel
theorem dJ6_bitCount_0f7a4_36 : decode cJ6_bitCount_0f7a4 36 = .ok (.bipush 8, 2) := by decide +kernel
theorem dJ6_bitCount_0f7a4_38 : decode cJ6_bitCount_0f7a4 38 = .ok (.iushr, 1) := by decide +kernel
theorem dJ6_bitCount_0f7a4_39 : decode cJ6_bitCount_0f7a4 39 = .ok (.iadd, 1) := by decide +kernel
theorem dJ6_bitCount_0f7a4_40 : decode cJ6_bitCount_0f7a4 40 = .ok (.istore_n 0, 1) := by decide +kernel
theorem dJ6_bitCount_0f7a4_41 : decode cJ6_bitCount_0f7a4 41 = .ok (.iload_n 0, 1) := by decide +kernel
theorem dJ6_bitCount_0f7a4_42 : decode cJ6_bitCount_0f7a4 42 = .ok (.iload_n 0, 1) := by decide +kernel
theorem dJ6_bitCount_0f7a4_43 : decode cJ6_bitCount_0f7a4 43 = .ok (.bipush 16, 2) := by decide +kernel
theorem dJ6_bitCount_0f7a4_45 : decode cJ6_bitCount_0f7a4 45 = .ok (.iushr, 1) := by decide +kernel
theorem dJ6_bitCount_0f7a4_46 : decode cJ6_bitCount_0f7a4 46 = .ok (.iadd, 1) := by decide +kernel
theorem dJ6_bitCount_0f7a4_47 : decode cJ6_bitCount_0f7a4 47 = .ok (.istore_n 0, 1) := by decide +kernel
theorem dJ6_bitCount_0f7a4_48 : decode cJ6_bitCount_0f7a4 48 = .ok (.iload_n 0, 1) := by decide +kernel
theorem dJ6_bitCount_0f7a4_49 : decode cJ6_bitCount_0f7a4 49 = .ok (.bipush 63, 2) := by decide +kernel
theorem dJ6_bitCount_0f7a4_51 : decode cJ6_bitCount_0f7a4 51 = .ok (.iand, 1) := by decide +kernel
theorem dJ6_bitCount_0f7a4_52 : decode cJ6_bitCount_0f7a4 52 = .ok (.ireturn, 1) := by decide +kernel
theorem dX0_splittableNets_0 : decode cX0_splittableNets 0 = .ok (.iconst 0, 1) := by decide +kernel
theorem dX0_splittableNets_1 : decode cX0_splittableNets 1 = .ok (.istore_n 1, 1) := by decide +kernel
theorem dX0_splittableNets_2 : decode cX0_splittableNets 2 = .ok (.iconst 0, 1) := by decide +kernel
theorem dX0_splittableNets_3 : decode cX0_splittableNets 3 = .ok (.istore_n 2, 1) := by decide +kernel
theorem dX0_splittableNets_4 : decode cX0_splittableNets 4 = .ok (.iload_n 2, 1) := by decide +kernel
theorem dX0_splittableNets_5 : decode cX0_splittableNets 5 = .ok (.bipush 6, 2) := by decide +kernel
theorem dX0_splittableNets_7 : decode cX0_splittableNets 7 = .ok (.if_icmp .ge 27, 3) := by decide +kernel
theorem dX0_splittableNets_10 : decode cX0_splittableNets 10 = .ok (.aload_n 0, 1) := by decide +kernel
theorem dX0_splittableNets_11 : decode cX0_splittableNets 11 = .ok (.iload_n 2, 1) := by decide +kernel
theorem dX0_splittableNets_12 : decode cX0_splittableNets 12 = .ok (.invokevirtual 27, 3) := by decide +kernel
theorem dX0_splittableNets_15 : decode cX0_splittableNets 15 = .ok (.invokestatic 30, 3) := by decide +kernel
theorem dX0_splittableNets_18 : decode cX0_splittableNets 18 = .ok (.iconst 2, 1) := by decide +kernel
theorem dX0_splittableNets_19 : decode cX0_splittableNets 19 = .ok (.if_icmp .le 9, 3) := by decide +kernel
theorem dX0_splittableNets_22 : decode cX0_splittableNets 22 = .ok (.iload_n 1, 1) := by decide +kernel
theorem dX0_splittableNets_23 : decode cX0_splittableNets 23 = .ok (.iconst 1, 1) := by decide +kernel
theorem dX0_splittableNets_24 : decode cX0_splittableNets 24 = .ok (.iload_n 2, 1) := by decide +kernel
theorem dX0_splittableNets_25 : decode cX0_splittableNets 25 = .ok (.ishl, 1) := by decide +kernel
theorem dX0_splittableNets_26 : decode cX0_splittableNets 26 = .ok (.ior, 1) := by decide +kernel
theorem dX0_splittableNets_27 : decode cX0_splittableNets 27 = .ok (.istore_n 1, 1) := by decide +kernel
theorem dX0_splittableNets_28 : decode cX0_splittableNets 28 = .ok (.iinc 2 1, 3) := by decide +kernel
theorem dX0_splittableNets_31 : decode cX0_splittableNets 31 = .ok (.goto (-27), 3) := by decide +kernel
theorem dX0_splittableNets_34 : decode cX0_splittableNets 34 = .ok (.iload_n 1, 1) := by decide +kernel
theorem dX0_splittableNets_35 : decode cX0_splittableNets 35 = .ok (.ireturn, 1) := by decide +kernel
theorem dX1_takeAllAway_0 : decode cX1_takeAllAway 0 = .ok (.iconst 0, 1) := by decide +kernel
theorem dX1_takeAllAway_1 : decode cX1_takeAllAway 1 = .ok (.istore_n 1, 1) := by decide +kernel
theorem dX1_takeAllAway_2 : decode cX1_takeAllAway 2 = .ok (.iload_n 1, 1) := by decide +kernel
theorem dX1_takeAllAway_3 : decode cX1_takeAllAway 3 = .ok (.bipush 14, 2) := by decide +kernel
theorem dX1_takeAllAway_5 : decode cX1_takeAllAway 5 = .ok (.if_icmp .ge 16, 3) := by decide +kernel
theorem dX1_takeAllAway_8 : decode cX1_takeAllAway 8 = .ok (.aload_n 0, 1) := by decide +kernel
theorem dX1_takeAllAway_9 : decode cX1_takeAllAway 9 = .ok (.getfield 9, 3) := by decide +kernel
theorem dX1_takeAllAway_12 : decode cX1_takeAllAway 12 = .ok (.iload_n 1, 1) := by decide +kernel
theorem dX1_takeAllAway_13 : decode cX1_takeAllAway 13 = .ok (.iconst (-1), 1) := by decide +kernel
theorem dX1_takeAllAway_14 : decode cX1_takeAllAway 14 = .ok (.iastore, 1) := by decide +kernel
theorem dX1_takeAllAway_15 : decode cX1_takeAllAway 15 = .ok (.iinc 1 1, 3) := by decide +kernel
theorem dX1_takeAllAway_18 : decode cX1_takeAllAway 18 = .ok (.goto (-16), 3) := by decide +kernel
theorem dX1_takeAllAway_21 : decode cX1_takeAllAway 21 = .ok (.return_, 1) := by decide +kernel
theorem dX1_placed_0 : decode cX1_placed 0 = .ok (.iconst 0, 1) := by decide +kernel
theorem dX1_placed_1 : decode cX1_placed 1 = .ok (.istore_n 1, 1) := by decide +kernel
theorem dX1_placed_2 : decode cX1_placed 2 = .ok (.iconst 0, 1) := by decide +kernel
theorem dX1_placed_3 : decode cX1_placed 3 = .ok (.istore_n 2, 1) := by decide +kernel
theorem dX1_placed_4 : decode cX1_placed 4 = .ok (.iload_n 2, 1) := by decide +kernel
theorem dX1_placed_5 : decode cX1_placed 5 = .ok (.bipush 14, 2) := by decide +kernel
theorem dX1_placed_7 : decode cX1_placed 7 = .ok (.if_icmp .ge 22, 3) := by decide +kernel
theorem dX1_placed_10 : decode cX1_placed 10 = .ok (.aload_n 0, 1) := by decide +kernel
theorem dX1_placed_11 : decode cX1_placed 11 = .ok (.getfield 9, 3) := by decide +kernel
theorem dX1_placed_14 : decode cX1_placed 14 = .ok (.iload_n 2, 1) := by decide +kernel
theorem dX1_placed_15 : decode cX1_placed 15 = .ok (.iaload, 1) := by decide +kernel
theorem dX1_placed_16 : decode cX1_placed 16 = .ok (.iconst (-1), 1) := by decide +kernel
theorem dX1_placed_17 : decode cX1_placed 17 = .ok (.if_icmp .eq 6, 3) := by decide +kernel
theorem dX1_placed_20 : decode cX1_placed 20 = .ok (.iinc 1 1, 3) := by decide +kernel
theorem dX1_placed_23 : decode cX1_placed 23 = .ok (.iinc 2 1, 3) := by decide +kernel
theorem dX1_placed_26 : decode cX1_placed 26 = .ok (.goto (-22), 3) := by decide +kernel
theorem dX1_placed_29 : decode cX1_placed 29 = .ok (.iload_n 1, 1) := by decide +kernel
theorem dX1_placed_30 : decode cX1_placed 30 = .ok (.ireturn, 1) := by decide +kernel
theorem dX1_depth_0 : decode cX1_depth 0 = .ok (.iconst (-1), 1) := by decide +kernel
theorem dX1_depth_1 : decode cX1_depth 1 = .ok (.istore_n 1, 1) := by decide +kernel
theorem dX1_depth_2 : decode cX1_depth 2 = .ok (.iconst 0, 1) := by decide +kernel
theorem dX1_depth_3 : decode cX1_depth 3 = .ok (.istore_n 2, 1) := by decide +kernel
theorem dX1_depth_4 : decode cX1_depth 4 = .ok (.iload_n 2, 1) := by decide +kernel
theorem dX1_depth_5 : decode cX1_depth 5 = .ok (.bipush 14, 2) := by decide +kernel
theorem dX1_depth_7 : decode cX1_depth 7 = .ok (.if_icmp .ge 20, 3) := by decide +kernel
theorem dX1_depth_10 : decode cX1_depth 10 = .ok (.iload_n 1, 1) := by decide +kernel
theorem dX1_depth_11 : decode cX1_depth 11 = .ok (.aload_n 0, 1) := by decide +kernel
theorem dX1_depth_12 : decode cX1_depth 12 = .ok (.getfield 9, 3) := by decide +kernel
theorem dX1_depth_15 : decode cX1_depth 15 = .ok (.iload_n 2, 1) := by decide +kernel
theorem dX1_depth_16 : decode cX1_depth 16 = .ok (.iaload, 1) := by decide +kernel
theorem dX1_depth_17 : decode cX1_depth 17 = .ok (.invokestatic 18, 3) := by decide +kernel
theorem dX1_depth_20 : decode cX1_depth 20 = .ok (.istore_n 1, 1) := by decide +kernel
theorem dX1_depth_21 : decode cX1_depth 21 = .ok (.iinc 2 1, 3) := by decide +kernel
theorem dX1_depth_24 : decode cX1_depth 24 = .ok (.goto (-20), 3) := by decide +kernel
theorem dX1_depth_27 : decode cX1_depth 27 = .ok (.iload_n 1, 1) := by decide +kernel
theorem dX1_depth_28 : decode cX1_depth 28 = .ok (.iconst 1, 1) := by decide +kernel
theorem dX1_depth_29 : decode cX1_depth 29 = .ok (.iadd, 1) := by decide +kernel
theorem dX1_depth_30 : decode cX1_depth 30 = .ok (.ireturn, 1) := by decide +kernel
theorem dX3_overlap_0 : decode cX3_overlap 0 = .ok (.aload_n 0, 1) := by decide +kernel
theorem dX3_overlap_1 : decode cX3_overlap 1 = .ok (.getfield 15, 3) := by decide +kernel
theorem dX3_overlap_4 : decode cX3_overlap 4 = .ok (.iload_n 1, 1) := by decide +kernel
theorem dX3_overlap_5 : decode cX3_overlap 5 = .ok (.iaload, 1) := by decide +kernel
theorem dX3_overlap_6 : decode cX3_overlap 6 = .ok (.aload_n 0, 1) := by decide +kernel
theorem dX3_overlap_7 : decode cX3_overlap 7 = .ok (.getfield 18, 3) := by decide +kernel
theorem dX3_overlap_10 : decode cX3_overlap 10 = .ok (.iload_n 2, 1) := by decide +kernel
theorem dX3_overlap_11 : decode cX3_overlap 11 = .ok (.iaload, 1) := by decide +kernel
theorem dX3_overlap_12 : decode cX3_overlap 12 = .ok (.if_icmp .gt 22, 3) := by decide +kernel
theorem dX3_overlap_15 : decode cX3_overlap 15 = .ok (.aload_n 0, 1) := by decide +kernel
theorem dX3_overlap_16 : decode cX3_overlap 16 = .ok (.getfield 15, 3) := by decide +kernel
theorem dX3_overlap_19 : decode cX3_overlap 19 = .ok (.iload_n 2, 1) := by decide +kernel
theorem dX3_overlap_20 : decode cX3_overlap 20 = .ok (.iaload, 1) := by decide +kernel
theorem dX3_overlap_21 : decode cX3_overlap 21 = .ok (.aload_n 0, 1) := by decide +kernel
theorem dX3_overlap_22 : decode cX3_overlap 22 = .ok (.getfield 18, 3) := by decide +kernel
theorem dX3_overlap_25 : decode cX3_overlap 25 = .ok (.iload_n 1, 1) := by decide +kernel
theorem dX3_overlap_26 : decode cX3_overlap 26 = .ok (.iaload, 1) := by decide +kernel
theorem dX3_overlap_27 : decode cX3_overlap 27 = .ok (.if_icmp .gt 7, 3) := by decide +kernel
theorem dX3_overlap_30 : decode cX3_overlap 30 = .ok (.iconst 1, 1) := by decide +kernel
theorem dX3_overlap_31 : decode cX3_overlap 31 = .ok (.goto 4, 3) := by decide +kernel
theorem dX3_overlap_34 : decode cX3_overlap 34 = .ok (.iconst 0, 1) := by decide +kernel
theorem dX3_overlap_35 : decode cX3_overlap 35 = .ok (.istore_n 3, 1) := by decide +kernel
theorem dX3_overlap_36 : decode cX3_overlap 36 = .ok (.iload_n 3, 1) := by decide +kernel
theorem dX3_overlap_37 : decode cX3_overlap 37 = .ok (.ifCond .eq 22, 3) := by decide +kernel
theorem dX3_overlap_40 : decode cX3_overlap 40 = .ok (.aload_n 0, 1) := by decide +kernel
theorem dX3_overlap_41 : decode cX3_overlap 41 = .ok (.getfield 9, 3) := by decide +kernel
theorem dX3_overlap_44 : decode cX3_overlap 44 = .ok (.iload_n 1, 1) := by decide +kernel
theorem dX3_overlap_45 : decode cX3_overlap 45 = .ok (.iaload, 1) := by decide +kernel
theorem dX3_overlap_46 : decode cX3_overlap 46 = .ok (.aload_n 0, 1) := by decide +kernel
theorem dX3_overlap_47 : decode cX3_overlap 47 = .ok (.getfield 9, 3) := by decide +kernel
theorem dX3_overlap_50 : decode cX3_overlap 50 = .ok (.iload_n 2, 1) := by decide +kernel
theorem dX3_overlap_51 : decode cX3_overlap 51 = .ok (.iaload, 1) := by decide +kernel
theorem dX3_overlap_52 : decode cX3_overlap 52 = .ok (.if_icmp .eq 7, 3) := by decide +kernel
theorem dX3_overlap_55 : decode cX3_overlap 55 = .ok (.iconst 1, 1) := by decide +kernel
theorem dX3_overlap_56 : decode cX3_overlap 56 = .ok (.goto 4, 3) := by decide +kernel
theorem dX3_overlap_59 : decode cX3_overlap 59 = .ok (.iconst 0, 1) := by decide +kernel
theorem dX3_overlap_60 : decode cX3_overlap 60 = .ok (.ireturn, 1) := by decide +kernel
theorem dX3_isAbove_0 : decode cX3_isAbove 0 = .ok (.aload_n 0, 1) := by decide +kernel
theorem dX3_isAbove_1 : decode cX3_isAbove 1 = .ok (.getfield 21, 3) := by decide +kernel
theorem dX3_isAbove_4 : decode cX3_isAbove 4 = .ok (.iload_n 1, 1) := by decide +kernel
theorem dX3_isAbove_5 : decode cX3_isAbove 5 = .ok (.iaload, 1) := by decide +kernel
theorem dX3_isAbove_6 : decode cX3_isAbove 6 = .ok (.iconst 1, 1) := by decide +kernel
theorem dX3_isAbove_7 : decode cX3_isAbove 7 = .ok (.iload_n 2, 1) := by decide +kernel
theorem dX3_isAbove_8 : decode cX3_isAbove 8 = .ok (.ishl, 1) := by decide +kernel
theorem dX3_isAbove_9 : decode cX3_isAbove 9 = .ok (.iand, 1) := by decide +kernel
theorem dX3_isAbove_10 : decode cX3_isAbove 10 = .ok (.ifCond .eq 7, 3) := by decide +kernel
theorem dX3_isAbove_13 : decode cX3_isAbove 13 = .ok (.iconst 1, 1) := by decide +kernel
theorem dX3_isAbove_14 : decode cX3_isAbove 14 = .ok (.goto 4, 3) := by decide +kernel
theorem dX3_isAbove_17 : decode cX3_isAbove 17 = .ok (.iconst 0, 1) := by decide +kernel
theorem dX3_isAbove_18 : decode cX3_isAbove 18 = .ok (.ireturn, 1) := by decide +kernel
theorem dX1_fitsBefore_0 : decode cX1_fitsBefore 0 = .ok (.iconst 0, 1) := by decide +kernel
theorem dX1_fitsBefore_1 : decode cX1_fitsBefore 1 = .ok (.istore_n 3, 1) := by decide +kernel
theorem dX1_fitsBefore_2 : decode cX1_fitsBefore 2 = .ok (.iload_n 3, 1) := by decide +kernel
theorem dX1_fitsBefore_3 : decode cX1_fitsBefore 3 = .ok (.iload_n 2, 1) := by decide +kernel
theorem dX1_fitsBefore_4 : decode cX1_fitsBefore 4 = .ok (.if_icmp .ge 119, 3) := by decide +kernel
theorem dX1_fitsBefore_7 : decode cX1_fitsBefore 7 = .ok (.aload_n 0, 1) := by decide +kernel
theorem dX1_fitsBefore_8 : decode cX1_fitsBefore 8 = .ok (.getfield 9, 3) := by decide +kernel
theorem dX1_fitsBefore_11 : decode cX1_fitsBefore 11 = .ok (.iload_n 3, 1) := by decide +kernel
theorem dX1_fitsBefore_12 : decode cX1_fitsBefore 12 = .ok (.iaload, 1) := by decide +kernel
theorem dX1_fitsBefore_13 : decode cX1_fitsBefore 13 = .ok (.aload_n 0, 1) := by decide +kernel
theorem dX1_fitsBefore_14 : decode cX1_fitsBefore 14 = .ok (.getfield 9, 3) := by decide +kernel
theorem dX1_fitsBefore_17 : decode cX1_fitsBefore 17 = .ok (.iload_n 2, 1) := by decide +kernel
theorem dX1_fitsBefore_18 : decode cX1_fitsBefore 18 = .ok (.iaload, 1) := by decide +kernel
theorem dX1_fitsBefore_19 : decode cX1_fitsBefore 19 = .ok (.if_icmp .ne 16, 3) := by decide +kernel
theorem dX1_fitsBefore_22 : decode cX1_fitsBefore 22 = .ok (.aload_n 1, 1) := by decide +kernel
theorem dX1_fitsBefore_23 : decode cX1_fitsBefore 23 = .ok (.iload_n 3, 1) := by decide +kernel
theorem dX1_fitsBefore_24 : decode cX1_fitsBefore 24 = .ok (.iload_n 2, 1) := by decide +kernel
theorem dX1_fitsBefore_25 : decode cX1_fitsBefore 25 = .ok (.invokevirtual 34, 3) := by decide +kernel
theorem dX1_fitsBefore_28 : decode cX1_fitsBefore 28 = .ok (.ifCond .eq 7, 3) := by decide +kernel
theorem dX1_fitsBefore_31 : decode cX1_fitsBefore 31 = .ok (.iconst 1, 1) := by decide +kernel
theorem dX1_fitsBefore_32 : decode cX1_fitsBefore 32 = .ok (.goto 4, 3) := by decide +kernel
theorem dX1_fitsBefore_35 : decode cX1_fitsBefore 35 = .ok (.iconst 0, 1) := by decide +kernel
theorem dX1_fitsBefore_36 : decode cX1_fitsBefore 36 = .ok (.istore 4, 2) := by decide +kernel
theorem dX1_fitsBefore_38 : decode cX1_fitsBefore 38 = .ok (.aload_n 0, 1) := by decide +kernel
theorem dX1_fitsBefore_39 : decode cX1_fitsBefore 39 = .ok (.getfield 9, 3) := by decide +kernel
theorem dX1_fitsBefore_42 : decode cX1_fitsBefore 42 = .ok (.iload_n 3, 1) := by decide +kernel
theorem dX1_fitsBefore_43 : decode cX1_fitsBefore 43 = .ok (.iaload, 1) := by decide +kernel
theorem dX1_fitsBefore_44 : decode cX1_fitsBefore 44 = .ok (.aload_n 0, 1) := by decide +kernel
theorem dX1_fitsBefore_45 : decode cX1_fitsBefore 45 = .ok (.getfield 9, 3) := by decide +kernel
theorem dX1_fitsBefore_48 : decode cX1_fitsBefore 48 = .ok (.iload_n 2, 1) := by decide +kernel
theorem dX1_fitsBefore_49 : decode cX1_fitsBefore 49 = .ok (.iaload, 1) := by decide +kernel
theorem dX1_fitsBefore_50 : decode cX1_fitsBefore 50 = .ok (.if_icmp .gt 16, 3) := by decide +kernel
theorem dX1_fitsBefore_53 : decode cX1_fitsBefore 53 = .ok (.aload_n 1, 1) := by decide +kernel
theorem dX1_fitsBefore_54 : decode cX1_fitsBefore 54 = .ok (.iload_n 2, 1) := by decide +kernel
theorem dX1_fitsBefore_55 : decode cX1_fitsBefore 55 = .ok (.iload_n 3, 1) := by decide +kernel
theorem dX1_fitsBefore_56 : decode cX1_fitsBefore 56 = .ok (.invokevirtual 38, 3) := by decide +kernel
theorem dX1_fitsBefore_59 : decode cX1_fitsBefore 59 = .ok (.ifCond .eq 7, 3) := by decide +kernel
theorem dX1_fitsBefore_62 : decode cX1_fitsBefore 62 = .ok (.iconst 1, 1) := by decide +kernel
theorem dX1_fitsBefore_63 : decode cX1_fitsBefore 63 = .ok (.goto 4, 3) := by decide +kernel
theorem dX1_fitsBefore_66 : decode cX1_fitsBefore 66 = .ok (.iconst 0, 1) := by decide +kernel
theorem dX1_fitsBefore_67 : decode cX1_fitsBefore 67 = .ok (.istore 5, 2) := by decide +kernel
theorem dX1_fitsBefore_69 : decode cX1_fitsBefore 69 = .ok (.aload_n 0, 1) := by decide +kernel
theorem dX1_fitsBefore_70 : decode cX1_fitsBefore 70 = .ok (.getfield 9, 3) := by decide +kernel
theorem dX1_fitsBefore_73 : decode cX1_fitsBefore 73 = .ok (.iload_n 3, 1) := by decide +kernel
theorem dX1_fitsBefore_74 : decode cX1_fitsBefore 74 = .ok (.iaload, 1) := by decide +kernel
theorem dX1_fitsBefore_75 : decode cX1_fitsBefore 75 = .ok (.aload_n 0, 1) := by decide +kernel
theorem dX1_fitsBefore_76 : decode cX1_fitsBefore 76 = .ok (.getfield 9, 3) := by decide +kernel
theorem dX1_fitsBefore_79 : decode cX1_fitsBefore 79 = .ok (.iload_n 2, 1) := by decide +kernel
theorem dX1_fitsBefore_80 : decode cX1_fitsBefore 80 = .ok (.iaload, 1) := by decide +kernel
theorem dX1_fitsBefore_81 : decode cX1_fitsBefore 81 = .ok (.if_icmp .lt 16, 3) := by decide +kernel
theorem dX1_fitsBefore_84 : decode cX1_fitsBefore 84 = .ok (.aload_n 1, 1) := by decide +kernel
theorem dX1_fitsBefore_85 : decode cX1_fitsBefore 85 = .ok (.iload_n 3, 1) := by decide +kernel
theorem dX1_fitsBefore_86 : decode cX1_fitsBefore 86 = .ok (.iload_n 2, 1) := by decide +kernel
theorem dX1_fitsBefore_87 : decode cX1_fitsBefore 87 = .ok (.invokevirtual 38, 3) := by decide +kernel
theorem dX1_fitsBefore_90 : decode cX1_fitsBefore 90 = .ok (.ifCond .eq 7, 3) := by decide +kernel
theorem dX1_fitsBefore_93 : decode cX1_fitsBefore 93 = .ok (.iconst 1, 1) := by decide +kernel
theorem dX1_fitsBefore_94 : decode cX1_fitsBefore 94 = .ok (.goto 4, 3) := by decide +kernel
theorem dX1_fitsBefore_97 : decode cX1_fitsBefore 97 = .ok (.iconst 0, 1) := by decide +kernel
theorem dX1_fitsBefore_98 : decode cX1_fitsBefore 98 = .ok (.istore 6, 2) := by decide +kernel
theorem dX1_fitsBefore_100 : decode cX1_fitsBefore 100 = .ok (.iload 4, 2) := by decide +kernel
theorem dX1_fitsBefore_102 : decode cX1_fitsBefore 102 = .ok (.ifCond .ne 13, 3) := by decide +kernel
theorem dX1_fitsBefore_105 : decode cX1_fitsBefore 105 = .ok (.iload 5, 2) := by decide +kernel
theorem dX1_fitsBefore_107 : decode cX1_fitsBefore 107 = .ok (.ifCond .ne 8, 3) := by decide +kernel
theorem dX1_fitsBefore_110 : decode cX1_fitsBefore 110 = .ok (.iload 6, 2) := by decide +kernel
theorem dX1_fitsBefore_112 : decode cX1_fitsBefore 112 = .ok (.ifCond .eq 5, 3) := by decide +kernel
theorem dX1_fitsBefore_115 : decode cX1_fitsBefore 115 = .ok (.iconst 0, 1) := by decide +kernel
theorem dX1_fitsBefore_116 : decode cX1_fitsBefore 116 = .ok (.ireturn, 1) := by decide +kernel
theorem dX1_fitsBefore_117 : decode cX1_fitsBefore 117 = .ok (.iinc 3 1, 3) := by decide +kernel
theorem dX1_fitsBefore_120 : decode cX1_fitsBefore 120 = .ok (.goto (-118), 3) := by decide +kernel
theorem dX1_fitsBefore_123 : decode cX1_fitsBefore 123 = .ok (.iconst 1, 1) := by decide +kernel
theorem dX1_fitsBefore_124 : decode cX1_fitsBefore 124 = .ok (.ireturn, 1) := by decide +kernel
theorem dX1_isValid_0 : decode cX1_isValid 0 = .ok (.iconst 0, 1) := by decide +kernel
theorem dX1_isValid_1 : decode cX1_isValid 1 = .ok (.istore_n 2, 1) := by decide +kernel
theorem dX1_isValid_2 : decode cX1_isValid 2 = .ok (.iload_n 2, 1) := by decide +kernel
theorem dX1_isValid_3 : decode cX1_isValid 3 = .ok (.aload_n 1, 1) := by decide +kernel
theorem dX1_isValid_4 : decode cX1_isValid 4 = .ok (.getfield 24, 3) := by decide +kernel
theorem dX1_isValid_7 : decode cX1_isValid 7 = .ok (.if_icmp .ge 30, 3) := by decide +kernel
theorem dX1_isValid_10 : decode cX1_isValid 10 = .ok (.aload_n 0, 1) := by decide +kernel
theorem dX1_isValid_11 : decode cX1_isValid 11 = .ok (.getfield 9, 3) := by decide +kernel
theorem dX1_isValid_14 : decode cX1_isValid 14 = .ok (.iload_n 2, 1) := by decide +kernel
theorem dX1_isValid_15 : decode cX1_isValid 15 = .ok (.iaload, 1) := by decide +kernel
theorem dX1_isValid_16 : decode cX1_isValid 16 = .ok (.iconst (-1), 1) := by decide +kernel
theorem dX1_isValid_17 : decode cX1_isValid 17 = .ok (.if_icmp .eq 12, 3) := by decide +kernel
theorem dX1_isValid_20 : decode cX1_isValid 20 = .ok (.aload_n 0, 1) := by decide +kernel
theorem dX1_isValid_21 : decode cX1_isValid 21 = .ok (.aload_n 1, 1) := by decide +kernel
theorem dX1_isValid_22 : decode cX1_isValid 22 = .ok (.iload_n 2, 1) := by decide +kernel
theorem dX1_isValid_23 : decode cX1_isValid 23 = .ok (.invokevirtual 30, 3) := by decide +kernel
theorem dX1_isValid_26 : decode cX1_isValid 26 = .ok (.ifCond .ne 5, 3) := by decide +kernel
theorem dX1_isValid_29 : decode cX1_isValid 29 = .ok (.iconst 0, 1) := by decide +kernel
theorem dX1_isValid_30 : decode cX1_isValid 30 = .ok (.ireturn, 1) := by decide +kernel
theorem dX1_isValid_31 : decode cX1_isValid 31 = .ok (.iinc 2 1, 3) := by decide +kernel
theorem dX1_isValid_34 : decode cX1_isValid 34 = .ok (.goto (-32), 3) := by decide +kernel
theorem dX1_isValid_37 : decode cX1_isValid 37 = .ok (.iconst 1, 1) := by decide +kernel
theorem dX1_isValid_38 : decode cX1_isValid 38 = .ok (.ireturn, 1) := by decide +kernel
theorem dX3_covers_0 : decode cX3_covers 0 = .ok (.aload_n 0, 1) := by decide +kernel
theorem dX3_covers_1 : decode cX3_covers 1 = .ok (.getfield 15, 3) := by decide +kernel
theorem dX3_covers_4 : decode cX3_covers 4 = .ok (.iload_n 1, 1) := by decide +kernel
theorem dX3_covers_5 : decode cX3_covers 5 = .ok (.iaload, 1) := by decide +kernel
theorem dX3_covers_6 : decode cX3_covers 6 = .ok (.iload_n 2, 1) := by decide +kernel
theorem dX3_covers_7 : decode cX3_covers 7 = .ok (.if_icmp .gt 17, 3) := by decide +kernel
theorem dX3_covers_10 : decode cX3_covers 10 = .ok (.iload_n 2, 1) := by decide +kernel
theorem dX3_covers_11 : decode cX3_covers 11 = .ok (.aload_n 0, 1) := by decide +kernel
theorem dX3_covers_12 : decode cX3_covers 12 = .ok (.getfield 18, 3) := by decide +kernel
theorem dX3_covers_15 : decode cX3_covers 15 = .ok (.iload_n 1, 1) := by decide +kernel
theorem dX3_covers_16 : decode cX3_covers 16 = .ok (.iaload, 1) := by decide +kernel
theorem dX3_covers_17 : decode cX3_covers 17 = .ok (.if_icmp .gt 7, 3) := by decide +kernel
theorem dX3_covers_20 : decode cX3_covers 20 = .ok (.iconst 1, 1) := by decide +kernel
theorem dX3_covers_21 : decode cX3_covers 21 = .ok (.goto 4, 3) := by decide +kernel
theorem dX3_covers_24 : decode cX3_covers 24 = .ok (.iconst 0, 1) := by decide +kernel
theorem dX3_covers_25 : decode cX3_covers 25 = .ok (.ireturn, 1) := by decide +kernel
theorem dX1_horizontalNets_0 : decode cX1_horizontalNets 0 = .ok (.iconst 0, 1) := by decide +kernel
theorem dX1_horizontalNets_1 : decode cX1_horizontalNets 1 = .ok (.istore 4, 2) := by decide +kernel
theorem dX1_horizontalNets_3 : decode cX1_horizontalNets 3 = .ok (.iconst 0, 1) := by decide +kernel
theorem dX1_horizontalNets_4 : decode cX1_horizontalNets 4 = .ok (.istore 5, 2) := by decide +kernel
theorem dX1_horizontalNets_6 : decode cX1_horizontalNets 6 = .ok (.iload 5, 2) := by decide +kernel
theorem dX1_horizontalNets_8 : decode cX1_horizontalNets 8 = .ok (.aload_n 1, 1) := by decide +kernel
theorem dX1_horizontalNets_9 : decode cX1_horizontalNets 9 = .ok (.getfield 24, 3) := by decide +kernel
theorem dX1_horizontalNets_12 : decode cX1_horizontalNets 12 = .ok (.if_icmp .ge 44, 3) := by decide +kernel
theorem dX1_horizontalNets_15 : decode cX1_horizontalNets 15 = .ok (.aload_n 0, 1) := by decide +kernel
theorem dX1_horizontalNets_16 : decode cX1_horizontalNets 16 = .ok (.getfield 9, 3) := by decide +kernel
theorem dX1_horizontalNets_19 : decode cX1_horizontalNets 19 = .ok (.iload 5, 2) := by decide +kernel
theorem dX1_horizontalNets_21 : decode cX1_horizontalNets 21 = .ok (.iaload, 1) := by decide +kernel
theorem dX1_horizontalNets_22 : decode cX1_horizontalNets 22 = .ok (.iload_n 2, 1) := by decide +kernel
theorem dX1_horizontalNets_23 : decode cX1_horizontalNets 23 = .ok (.if_icmp .ne 27, 3) := by decide +kernel
theorem dX1_horizontalNets_26 : decode cX1_horizontalNets 26 = .ok (.aload_n 1, 1) := by decide +kernel
theorem dX1_horizontalNets_27 : decode cX1_horizontalNets 27 = .ok (.iload 5, 2) := by decide +kernel
theorem dX1_horizontalNets_29 : decode cX1_horizontalNets 29 = .ok (.iload_n 3, 1) := by decide +kernel
theorem dX1_horizontalNets_30 : decode cX1_horizontalNets 30 = .ok (.invokevirtual 41, 3) := by decide +kernel
theorem dX1_horizontalNets_33 : decode cX1_horizontalNets 33 = .ok (.ifCond .eq 17, 3) := by decide +kernel
theorem dX1_horizontalNets_36 : decode cX1_horizontalNets 36 = .ok (.iload 4, 2) := by decide +kernel
theorem dX1_horizontalNets_38 : decode cX1_horizontalNets 38 = .ok (.iconst 1, 1) := by decide +kernel
theorem dX1_horizontalNets_39 : decode cX1_horizontalNets 39 = .ok (.aload_n 1, 1) := by decide +kernel
theorem dX1_horizontalNets_40 : decode cX1_horizontalNets 40 = .ok (.getfield 44, 3) := by decide +kernel
theorem dX1_horizontalNets_43 : decode cX1_horizontalNets 43 = .ok (.iload 5, 2) := by decide +kernel
theorem dX1_horizontalNets_45 : decode cX1_horizontalNets 45 = .ok (.iaload, 1) := by decide +kernel
theorem dX1_horizontalNets_46 : decode cX1_horizontalNets 46 = .ok (.ishl, 1) := by decide +kernel
theorem dX1_horizontalNets_47 : decode cX1_horizontalNets 47 = .ok (.ior, 1) := by decide +kernel
theorem dX1_horizontalNets_48 : decode cX1_horizontalNets 48 = .ok (.istore 4, 2) := by decide +kernel
theorem dX1_horizontalNets_50 : decode cX1_horizontalNets 50 = .ok (.iinc 5 1, 3) := by decide +kernel
theorem dX1_horizontalNets_53 : decode cX1_horizontalNets 53 = .ok (.goto (-47), 3) := by decide +kernel
theorem dX1_horizontalNets_56 : decode cX1_horizontalNets 56 = .ok (.iload 4, 2) := by decide +kernel
theorem dX1_horizontalNets_58 : decode cX1_horizontalNets 58 = .ok (.ireturn, 1) := by decide +kernel
theorem dX3_isJoined_0 : decode cX3_isJoined 0 = .ok (.aload_n 0, 1) := by decide +kernel
theorem dX3_isJoined_1 : decode cX3_isJoined 1 = .ok (.getfield 9, 3) := by decide +kernel
theorem dX3_isJoined_4 : decode cX3_isJoined 4 = .ok (.iload_n 1, 1) := by decide +kernel
theorem dX3_isJoined_5 : decode cX3_isJoined 5 = .ok (.iaload, 1) := by decide +kernel
theorem dX3_isJoined_6 : decode cX3_isJoined 6 = .ok (.iload_n 2, 1) := by decide +kernel
theorem dX3_isJoined_7 : decode cX3_isJoined 7 = .ok (.if_icmp .ne 20, 3) := by decide +kernel
theorem dX3_isJoined_10 : decode cX3_isJoined 10 = .ok (.aload_n 0, 1) := by decide +kernel
theorem dX3_isJoined_11 : decode cX3_isJoined 11 = .ok (.getfield 33, 3) := by decide +kernel
theorem dX3_isJoined_14 : decode cX3_isJoined 14 = .ok (.iload_n 1, 1) := by decide +kernel
theorem dX3_isJoined_15 : decode cX3_isJoined 15 = .ok (.iaload, 1) := by decide +kernel
theorem dX3_isJoined_16 : decode cX3_isJoined 16 = .ok (.iconst 1, 1) := by decide +kernel
theorem dX3_isJoined_17 : decode cX3_isJoined 17 = .ok (.iload_n 3, 1) := by decide +kernel
theorem dX3_isJoined_18 : decode cX3_isJoined 18 = .ok (.ishl, 1) := by decide +kernel
theorem dX3_isJoined_19 : decode cX3_isJoined 19 = .ok (.iand, 1) := by decide +kernel
theorem dX3_isJoined_20 : decode cX3_isJoined 20 = .ok (.ifCond .eq 7, 3) := by decide +kernel
theorem dX3_isJoined_23 : decode cX3_isJoined 23 = .ok (.iconst 1, 1) := by decide +kernel
theorem dX3_isJoined_24 : decode cX3_isJoined 24 = .ok (.goto 4, 3) := by decide +kernel
theorem dX3_isJoined_27 : decode cX3_isJoined 27 = .ok (.iconst 0, 1) := by decide +kernel
theorem dX3_isJoined_28 : decode cX3_isJoined 28 = .ok (.ireturn, 1) := by decide +kernel
theorem dX1_wireFromTop_0 : decode cX1_wireFromTop 0 = .ok (.iconst 0, 1) := by decide +kernel
theorem dX1_wireFromTop_1 : decode cX1_wireFromTop 1 = .ok (.istore 5, 2) := by decide +kernel
theorem dX1_wireFromTop_3 : decode cX1_wireFromTop 3 = .ok (.iload 5, 2) := by decide +kernel
theorem dX1_wireFromTop_5 : decode cX1_wireFromTop 5 = .ok (.aload_n 1, 1) := by decide +kernel
theorem dX1_wireFromTop_6 : decode cX1_wireFromTop 6 = .ok (.getfield 24, 3) := by decide +kernel
theorem dX1_wireFromTop_9 : decode cX1_wireFromTop 9 = .ok (.if_icmp .ge 34, 3) := by decide +kernel
theorem dX1_wireFromTop_12 : decode cX1_wireFromTop 12 = .ok (.aload_n 1, 1) := by decide +kernel
theorem dX1_wireFromTop_13 : decode cX1_wireFromTop 13 = .ok (.iload 5, 2) := by decide +kernel
theorem dX1_wireFromTop_15 : decode cX1_wireFromTop 15 = .ok (.iload_n 2, 1) := by decide +kernel
theorem dX1_wireFromTop_16 : decode cX1_wireFromTop 16 = .ok (.iload 4, 2) := by decide +kernel
theorem dX1_wireFromTop_18 : decode cX1_wireFromTop 18 = .ok (.invokevirtual 59, 3) := by decide +kernel
theorem dX1_wireFromTop_21 : decode cX1_wireFromTop 21 = .ok (.ifCond .eq 16, 3) := by decide +kernel
theorem dX1_wireFromTop_24 : decode cX1_wireFromTop 24 = .ok (.aload_n 0, 1) := by decide +kernel
theorem dX1_wireFromTop_25 : decode cX1_wireFromTop 25 = .ok (.getfield 9, 3) := by decide +kernel
theorem dX1_wireFromTop_28 : decode cX1_wireFromTop 28 = .ok (.iload 5, 2) := by decide +kernel
theorem dX1_wireFromTop_30 : decode cX1_wireFromTop 30 = .ok (.iaload, 1) := by decide +kernel
theorem dX1_wireFromTop_31 : decode cX1_wireFromTop 31 = .ok (.iload_n 3, 1) := by decide +kernel
theorem dX1_wireFromTop_32 : decode cX1_wireFromTop 32 = .ok (.if_icmp .lt 5, 3) := by decide +kernel
theorem dX1_wireFromTop_35 : decode cX1_wireFromTop 35 = .ok (.iconst 1, 1) := by decide +kernel
theorem dX1_wireFromTop_36 : decode cX1_wireFromTop 36 = .ok (.ireturn, 1) := by decide +kernel
theorem dX1_wireFromTop_37 : decode cX1_wireFromTop 37 = .ok (.iinc 5 1, 3) := by decide +kernel
theorem dX1_wireFromTop_40 : decode cX1_wireFromTop 40 = .ok (.goto (-37), 3) := by decide +kernel
theorem dX1_wireFromTop_43 : decode cX1_wireFromTop 43 = .ok (.iconst 0, 1) := by decide +kernel
theorem dX1_wireFromTop_44 : decode cX1_wireFromTop 44 = .ok (.ireturn, 1) := by decide +kernel
theorem dX1_wireFromBottom_0 : decode cX1_wireFromBottom 0 = .ok (.iconst 0, 1) := by decide +kernel
theorem dX1_wireFromBottom_1 : decode cX1_wireFromBottom 1 = .ok (.istore 5, 2) := by decide +kernel
theorem dX1_wireFromBottom_3 : decode cX1_wireFromBottom 3 = .ok (.iload 5, 2) := by decide +kernel
theorem dX1_wireFromBottom_5 : decode cX1_wireFromBottom 5 = .ok (.aload_n 1, 1) := by decide +kernel
theorem dX1_wireFromBottom_6 : decode cX1_wireFromBottom 6 = .ok (.getfield 24, 3) := by decide +kernel
theorem dX1_wireFromBottom_9 : decode cX1_wireFromBottom 9 = .ok (.if_icmp .ge 57, 3) := by decide +kernel
theorem dX1_wireFromBottom_12 : decode cX1_wireFromBottom 12 = .ok (.aload_n 0, 1) := by decide +kernel
theorem dX1_wireFromBottom_13 : decode cX1_wireFromBottom 13 = .ok (.getfield 9, 3) := by decide +kernel
theorem dX1_wireFromBottom_16 : decode cX1_wireFromBottom 16 = .ok (.iload 5, 2) := by decide +kernel
theorem dX1_wireFromBottom_18 : decode cX1_wireFromBottom 18 = .ok (.iaload, 1) := by decide +kernel
theorem dX1_wireFromBottom_19 : decode cX1_wireFromBottom 19 = .ok (.iconst (-1), 1) := by decide +kernel
theorem dX1_wireFromBottom_20 : decode cX1_wireFromBottom 20 = .ok (.if_icmp .eq 18, 3) := by decide +kernel
theorem dX1_wireFromBottom_23 : decode cX1_wireFromBottom 23 = .ok (.aload_n 0, 1) := by decide +kernel
theorem dX1_wireFromBottom_24 : decode cX1_wireFromBottom 24 = .ok (.getfield 9, 3) := by decide +kernel
theorem dX1_wireFromBottom_27 : decode cX1_wireFromBottom 27 = .ok (.iload 5, 2) := by decide +kernel
theorem dX1_wireFromBottom_29 : decode cX1_wireFromBottom 29 = .ok (.iaload, 1) := by decide +kernel
theorem dX1_wireFromBottom_30 : decode cX1_wireFromBottom 30 = .ok (.iload_n 3, 1) := by decide +kernel
theorem dX1_wireFromBottom_31 : decode cX1_wireFromBottom 31 = .ok (.if_icmp .gt 7, 3) := by decide +kernel
theorem dX1_wireFromBottom_34 : decode cX1_wireFromBottom 34 = .ok (.iconst 1, 1) := by decide +kernel
theorem dX1_wireFromBottom_35 : decode cX1_wireFromBottom 35 = .ok (.goto 4, 3) := by decide +kernel
theorem dX1_wireFromBottom_38 : decode cX1_wireFromBottom 38 = .ok (.iconst 0, 1) := by decide +kernel
theorem dX1_wireFromBottom_39 : decode cX1_wireFromBottom 39 = .ok (.istore 6, 2) := by decide +kernel
theorem dX1_wireFromBottom_41 : decode cX1_wireFromBottom 41 = .ok (.iload 6, 2) := by decide +kernel
theorem dX1_wireFromBottom_43 : decode cX1_wireFromBottom 43 = .ok (.ifCond .eq 17, 3) := by decide +kernel
theorem dX1_wireFromBottom_46 : decode cX1_wireFromBottom 46 = .ok (.aload_n 1, 1) := by decide +kernel
theorem dX1_wireFromBottom_47 : decode cX1_wireFromBottom 47 = .ok (.iload 5, 2) := by decide +kernel
theorem dX1_wireFromBottom_49 : decode cX1_wireFromBottom 49 = .ok (.iload_n 2, 1) := by decide +kernel
theorem dX1_wireFromBottom_50 : decode cX1_wireFromBottom 50 = .ok (.iload 4, 2) := by decide +kernel
theorem dX1_wireFromBottom_52 : decode cX1_wireFromBottom 52 = .ok (.invokevirtual 59, 3) := by decide +kernel
theorem dX1_wireFromBottom_55 : decode cX1_wireFromBottom 55 = .ok (.ifCond .eq 5, 3) := by decide +kernel
theorem dX1_wireFromBottom_58 : decode cX1_wireFromBottom 58 = .ok (.iconst 1, 1) := by decide +kernel
theorem dX1_wireFromBottom_59 : decode cX1_wireFromBottom 59 = .ok (.ireturn, 1) := by decide +kernel
theorem dX1_wireFromBottom_60 : decode cX1_wireFromBottom 60 = .ok (.iinc 5 1, 3) := by decide +kernel
theorem dX1_wireFromBottom_63 : decode cX1_wireFromBottom 63 = .ok (.goto (-60), 3) := by decide +kernel
theorem dX1_wireFromBottom_66 : decode cX1_wireFromBottom 66 = .ok (.iconst 0, 1) := by decide +kernel
theorem dX1_wireFromBottom_67 : decode cX1_wireFromBottom 67 = .ok (.ireturn, 1) := by decide +kernel
theorem dX1_verticalNets_0 : decode cX1_verticalNets 0 = .ok (.aload_n 1, 1) := by decide +kernel
theorem dX1_verticalNets_1 : decode cX1_verticalNets 1 = .ok (.iload 4, 2) := by decide +kernel
theorem dX1_verticalNets_3 : decode cX1_verticalNets 3 = .ok (.iconst 0, 1) := by decide +kernel
theorem dX1_verticalNets_4 : decode cX1_verticalNets 4 = .ok (.invokevirtual 47, 3) := by decide +kernel
theorem dX1_verticalNets_7 : decode cX1_verticalNets 7 = .ok (.istore 5, 2) := by decide +kernel
theorem dX1_verticalNets_9 : decode cX1_verticalNets 9 = .ok (.aload_n 1, 1) := by decide +kernel
theorem dX1_verticalNets_10 : decode cX1_verticalNets 10 = .ok (.iload 4, 2) := by decide +kernel
theorem dX1_verticalNets_12 : decode cX1_verticalNets 12 = .ok (.iconst 1, 1) := by decide +kernel
theorem dX1_verticalNets_13 : decode cX1_verticalNets 13 = .ok (.invokevirtual 47, 3) := by decide +kernel
theorem dX1_verticalNets_16 : decode cX1_verticalNets 16 = .ok (.istore 6, 2) := by decide +kernel
theorem dX1_verticalNets_18 : decode cX1_verticalNets 18 = .ok (.iconst 0, 1) := by decide +kernel
theorem dX1_verticalNets_19 : decode cX1_verticalNets 19 = .ok (.istore 7, 2) := by decide +kernel
theorem dX1_verticalNets_21 : decode cX1_verticalNets 21 = .ok (.iload 5, 2) := by decide +kernel
theorem dX1_verticalNets_23 : decode cX1_verticalNets 23 = .ok (.iconst (-1), 1) := by decide +kernel
theorem dX1_verticalNets_24 : decode cX1_verticalNets 24 = .ok (.if_icmp .eq 32, 3) := by decide +kernel
theorem dX1_verticalNets_27 : decode cX1_verticalNets 27 = .ok (.iload 5, 2) := by decide +kernel
theorem dX1_verticalNets_29 : decode cX1_verticalNets 29 = .ok (.iload 6, 2) := by decide +kernel
theorem dX1_verticalNets_31 : decode cX1_verticalNets 31 = .ok (.if_icmp .eq 16, 3) := by decide +kernel
theorem dX1_verticalNets_34 : decode cX1_verticalNets 34 = .ok (.aload_n 0, 1) := by decide +kernel
theorem dX1_verticalNets_35 : decode cX1_verticalNets 35 = .ok (.aload_n 2, 1) := by decide +kernel
theorem dX1_verticalNets_36 : decode cX1_verticalNets 36 = .ok (.iload 5, 2) := by decide +kernel
theorem dX1_verticalNets_38 : decode cX1_verticalNets 38 = .ok (.iload_n 3, 1) := by decide +kernel
theorem dX1_verticalNets_39 : decode cX1_verticalNets 39 = .ok (.iload 4, 2) := by decide +kernel
theorem dX1_verticalNets_41 : decode cX1_verticalNets 41 = .ok (.invokevirtual 52, 3) := by decide +kernel
theorem dX1_verticalNets_44 : decode cX1_verticalNets 44 = .ok (.ifCond .eq 12, 3) := by decide +kernel
theorem dX1_verticalNets_47 : decode cX1_verticalNets 47 = .ok (.iload 7, 2) := by decide +kernel
theorem dX1_verticalNets_49 : decode cX1_verticalNets 49 = .ok (.iconst 1, 1) := by decide +kernel
theorem dX1_verticalNets_50 : decode cX1_verticalNets 50 = .ok (.iload 5, 2) := by decide +kernel
theorem dX1_verticalNets_52 : decode cX1_verticalNets 52 = .ok (.ishl, 1) := by decide +kernel
theorem dX1_verticalNets_53 : decode cX1_verticalNets 53 = .ok (.ior, 1) := by decide +kernel
theorem dX1_verticalNets_54 : decode cX1_verticalNets 54 = .ok (.istore 7, 2) := by decide +kernel
theorem dX1_verticalNets_56 : decode cX1_verticalNets 56 = .ok (.iload 6, 2) := by decide +kernel
theorem dX1_verticalNets_58 : decode cX1_verticalNets 58 = .ok (.iconst (-1), 1) := by decide +kernel
theorem dX1_verticalNets_59 : decode cX1_verticalNets 59 = .ok (.if_icmp .eq 25, 3) := by decide +kernel
theorem dX1_verticalNets_62 : decode cX1_verticalNets 62 = .ok (.aload_n 0, 1) := by decide +kernel
theorem dX1_verticalNets_63 : decode cX1_verticalNets 63 = .ok (.aload_n 2, 1) := by decide +kernel
theorem dX1_verticalNets_64 : decode cX1_verticalNets 64 = .ok (.iload 6, 2) := by decide +kernel
theorem dX1_verticalNets_66 : decode cX1_verticalNets 66 = .ok (.iload_n 3, 1) := by decide +kernel
theorem dX1_verticalNets_67 : decode cX1_verticalNets 67 = .ok (.iload 4, 2) := by decide +kernel
theorem dX1_verticalNets_69 : decode cX1_verticalNets 69 = .ok (.invokevirtual 56, 3) := by decide +kernel
theorem dX1_verticalNets_72 : decode cX1_verticalNets 72 = .ok (.ifCond .eq 12, 3) := by decide +kernel
theorem dX1_verticalNets_75 : decode cX1_verticalNets 75 = .ok (.iload 7, 2) := by decide +kernel
theorem dX1_verticalNets_77 : decode cX1_verticalNets 77 = .ok (.iconst 1, 1) := by decide +kernel
theorem dX1_verticalNets_78 : decode cX1_verticalNets 78 = .ok (.iload 6, 2) := by decide +kernel
theorem dX1_verticalNets_80 : decode cX1_verticalNets 80 = .ok (.ishl, 1) := by decide +kernel
theorem dX1_verticalNets_81 : decode cX1_verticalNets 81 = .ok (.ior, 1) := by decide +kernel
theorem dX1_verticalNets_82 : decode cX1_verticalNets 82 = .ok (.istore 7, 2) := by decide +kernel
theorem dX1_verticalNets_84 : decode cX1_verticalNets 84 = .ok (.iload 7, 2) := by decide +kernel
theorem dX1_verticalNets_86 : decode cX1_verticalNets 86 = .ok (.ireturn, 1) := by decide +kernel
theorem dX1_conflicts_0 : decode cX1_conflicts 0 = .ok (.iconst 0, 1) := by decide +kernel
theorem dX1_conflicts_1 : decode cX1_conflicts 1 = .ok (.istore_n 3, 1) := by decide +kernel
theorem dX1_conflicts_2 : decode cX1_conflicts 2 = .ok (.aload_n 0, 1) := by decide +kernel
theorem dX1_conflicts_3 : decode cX1_conflicts 3 = .ok (.invokevirtual 63, 3) := by decide +kernel
theorem dX1_conflicts_6 : decode cX1_conflicts 6 = .ok (.istore 4, 2) := by decide +kernel
theorem dX1_conflicts_8 : decode cX1_conflicts 8 = .ok (.iconst 0, 1) := by decide +kernel
theorem dX1_conflicts_9 : decode cX1_conflicts 9 = .ok (.istore 5, 2) := by decide +kernel
theorem dX1_conflicts_11 : decode cX1_conflicts 11 = .ok (.iload 5, 2) := by decide +kernel
theorem dX1_conflicts_13 : decode cX1_conflicts 13 = .ok (.iload 4, 2) := by decide +kernel
theorem dX1_conflicts_15 : decode cX1_conflicts 15 = .ok (.if_icmp .ge 66, 3) := by decide +kernel
theorem dX1_conflicts_18 : decode cX1_conflicts 18 = .ok (.iconst 0, 1) := by decide +kernel
theorem dX1_conflicts_19 : decode cX1_conflicts 19 = .ok (.istore 6, 2) := by decide +kernel
theorem dX1_conflicts_21 : decode cX1_conflicts 21 = .ok (.iload 6, 2) := by decide +kernel
theorem dX1_conflicts_23 : decode cX1_conflicts 23 = .ok (.aload_n 1, 1) := by decide +kernel
theorem dX1_conflicts_24 : decode cX1_conflicts 24 = .ok (.getfield 67, 3) := by decide +kernel
theorem dX1_conflicts_27 : decode cX1_conflicts 27 = .ok (.if_icmp .ge 48, 3) := by decide +kernel
theorem dX1_conflicts_30 : decode cX1_conflicts 30 = .ok (.aload_n 0, 1) := by decide +kernel
theorem dX1_conflicts_31 : decode cX1_conflicts 31 = .ok (.aload_n 2, 1) := by decide +kernel
theorem dX1_conflicts_32 : decode cX1_conflicts 32 = .ok (.iload 5, 2) := by decide +kernel
theorem dX1_conflicts_34 : decode cX1_conflicts 34 = .ok (.iload 6, 2) := by decide +kernel
theorem dX1_conflicts_36 : decode cX1_conflicts 36 = .ok (.invokevirtual 70, 3) := by decide +kernel
theorem dX1_conflicts_39 : decode cX1_conflicts 39 = .ok (.invokestatic 74, 3) := by decide +kernel
theorem dX1_conflicts_42 : decode cX1_conflicts 42 = .ok (.iconst 1, 1) := by decide +kernel
theorem dX1_conflicts_43 : decode cX1_conflicts 43 = .ok (.if_icmp .le 6, 3) := by decide +kernel
theorem dX1_conflicts_46 : decode cX1_conflicts 46 = .ok (.iinc 3 1, 3) := by decide +kernel
theorem dX1_conflicts_49 : decode cX1_conflicts 49 = .ok (.aload_n 0, 1) := by decide +kernel
theorem dX1_conflicts_50 : decode cX1_conflicts 50 = .ok (.aload_n 1, 1) := by decide +kernel
theorem dX1_conflicts_51 : decode cX1_conflicts 51 = .ok (.aload_n 2, 1) := by decide +kernel
theorem dX1_conflicts_52 : decode cX1_conflicts 52 = .ok (.iload 5, 2) := by decide +kernel
theorem dX1_conflicts_54 : decode cX1_conflicts 54 = .ok (.iload 6, 2) := by decide +kernel
theorem dX1_conflicts_56 : decode cX1_conflicts 56 = .ok (.invokevirtual 80, 3) := by decide +kernel
theorem dX1_conflicts_59 : decode cX1_conflicts 59 = .ok (.invokestatic 74, 3) := by decide +kernel
theorem dX1_conflicts_62 : decode cX1_conflicts 62 = .ok (.iconst 1, 1) := by decide +kernel
theorem dX1_conflicts_63 : decode cX1_conflicts 63 = .ok (.if_icmp .le 6, 3) := by decide +kernel
theorem dX1_conflicts_66 : decode cX1_conflicts 66 = .ok (.iinc 3 1, 3) := by decide +kernel
theorem dX1_conflicts_69 : decode cX1_conflicts 69 = .ok (.iinc 6 1, 3) := by decide +kernel
theorem dX1_conflicts_72 : decode cX1_conflicts 72 = .ok (.goto (-51), 3) := by decide +kernel
theorem dX1_conflicts_75 : decode cX1_conflicts 75 = .ok (.iinc 5 1, 3) := by decide +kernel
theorem dX1_conflicts_78 : decode cX1_conflicts 78 = .ok (.goto (-67), 3) := by decide +kernel
theorem dX1_conflicts_81 : decode cX1_conflicts 81 = .ok (.iload_n 3, 1) := by decide +kernel
theorem dX1_conflicts_82 : decode cX1_conflicts 82 = .ok (.ireturn, 1) := by decide +kernel
theorem dX1_isFree_0 : decode cX1_isFree 0 = .ok (.iconst 0, 1) := by decide +kernel
theorem dX1_isFree_1 : decode cX1_isFree 1 = .ok (.istore 4, 2) := by decide +kernel
theorem dX1_isFree_3 : decode cX1_isFree 3 = .ok (.iload 4, 2) := by decide +kernel
theorem dX1_isFree_5 : decode cX1_isFree 5 = .ok (.aload_n 1, 1) := by decide +kernel
theorem dX1_isFree_6 : decode cX1_isFree 6 = .ok (.getfield 24, 3) := by decide +kernel
theorem dX1_isFree_9 : decode cX1_isFree 9 = .ok (.if_icmp .ge 88, 3) := by decide +kernel
theorem dX1_isFree_12 : decode cX1_isFree 12 = .ok (.aload_n 0, 1) := by decide +kernel
theorem dX1_isFree_13 : decode cX1_isFree 13 = .ok (.getfield 9, 3) := by decide +kernel
theorem dX1_isFree_16 : decode cX1_isFree 16 = .ok (.iload 4, 2) := by decide +kernel
theorem dX1_isFree_18 : decode cX1_isFree 18 = .ok (.iaload, 1) := by decide +kernel
theorem dX1_isFree_19 : decode cX1_isFree 19 = .ok (.iconst (-1), 1) := by decide +kernel
theorem dX1_isFree_20 : decode cX1_isFree 20 = .ok (.if_icmp .eq 18, 3) := by decide +kernel
theorem dX1_isFree_23 : decode cX1_isFree 23 = .ok (.aload_n 0, 1) := by decide +kernel
theorem dX1_isFree_24 : decode cX1_isFree 24 = .ok (.getfield 9, 3) := by decide +kernel
theorem dX1_isFree_27 : decode cX1_isFree 27 = .ok (.iload 4, 2) := by decide +kernel
theorem dX1_isFree_29 : decode cX1_isFree 29 = .ok (.iaload, 1) := by decide +kernel
theorem dX1_isFree_30 : decode cX1_isFree 30 = .ok (.iload_n 3, 1) := by decide +kernel
theorem dX1_isFree_31 : decode cX1_isFree 31 = .ok (.if_icmp .ge 7, 3) := by decide +kernel
theorem dX1_isFree_34 : decode cX1_isFree 34 = .ok (.iconst 1, 1) := by decide +kernel
theorem dX1_isFree_35 : decode cX1_isFree 35 = .ok (.goto 4, 3) := by decide +kernel
theorem dX1_isFree_38 : decode cX1_isFree 38 = .ok (.iconst 0, 1) := by decide +kernel
theorem dX1_isFree_39 : decode cX1_isFree 39 = .ok (.istore 5, 2) := by decide +kernel
theorem dX1_isFree_41 : decode cX1_isFree 41 = .ok (.aload_n 0, 1) := by decide +kernel
theorem dX1_isFree_42 : decode cX1_isFree 42 = .ok (.getfield 9, 3) := by decide +kernel
theorem dX1_isFree_45 : decode cX1_isFree 45 = .ok (.iload 4, 2) := by decide +kernel
theorem dX1_isFree_47 : decode cX1_isFree 47 = .ok (.iaload, 1) := by decide +kernel
theorem dX1_isFree_48 : decode cX1_isFree 48 = .ok (.iload_n 3, 1) := by decide +kernel
theorem dX1_isFree_49 : decode cX1_isFree 49 = .ok (.if_icmp .ne 17, 3) := by decide +kernel
theorem dX1_isFree_52 : decode cX1_isFree 52 = .ok (.aload_n 1, 1) := by decide +kernel
theorem dX1_isFree_53 : decode cX1_isFree 53 = .ok (.iload 4, 2) := by decide +kernel
theorem dX1_isFree_55 : decode cX1_isFree 55 = .ok (.iload_n 2, 1) := by decide +kernel
theorem dX1_isFree_56 : decode cX1_isFree 56 = .ok (.invokevirtual 34, 3) := by decide +kernel
theorem dX1_isFree_59 : decode cX1_isFree 59 = .ok (.ifCond .eq 7, 3) := by decide +kernel
theorem dX1_isFree_62 : decode cX1_isFree 62 = .ok (.iconst 1, 1) := by decide +kernel
theorem dX1_isFree_63 : decode cX1_isFree 63 = .ok (.goto 4, 3) := by decide +kernel
theorem dX1_isFree_66 : decode cX1_isFree 66 = .ok (.iconst 0, 1) := by decide +kernel
theorem dX1_isFree_67 : decode cX1_isFree 67 = .ok (.istore 6, 2) := by decide +kernel
theorem dX1_isFree_69 : decode cX1_isFree 69 = .ok (.iload 6, 2) := by decide +kernel
theorem dX1_isFree_71 : decode cX1_isFree 71 = .ok (.ifCond .ne 18, 3) := by decide +kernel
theorem dX1_isFree_74 : decode cX1_isFree 74 = .ok (.aload_n 1, 1) := by decide +kernel
theorem dX1_isFree_75 : decode cX1_isFree 75 = .ok (.iload 4, 2) := by decide +kernel
theorem dX1_isFree_77 : decode cX1_isFree 77 = .ok (.iload_n 2, 1) := by decide +kernel
theorem dX1_isFree_78 : decode cX1_isFree 78 = .ok (.invokevirtual 38, 3) := by decide +kernel
theorem dX1_isFree_81 : decode cX1_isFree 81 = .ok (.ifCond .eq 10, 3) := by decide +kernel
theorem dX1_isFree_84 : decode cX1_isFree 84 = .ok (.iload 5, 2) := by decide +kernel
theorem dX1_isFree_86 : decode cX1_isFree 86 = .ok (.ifCond .ne 5, 3) := by decide +kernel
theorem dX1_isFree_89 : decode cX1_isFree 89 = .ok (.iconst 0, 1) := by decide +kernel
theorem dX1_isFree_90 : decode cX1_isFree 90 = .ok (.ireturn, 1) := by decide +kernel
theorem dX1_isFree_91 : decode cX1_isFree 91 = .ok (.iinc 4 1, 3) := by decide +kernel
theorem dX1_isFree_94 : decode cX1_isFree 94 = .ok (.goto (-91), 3) := by decide +kernel
theorem dX1_isFree_97 : decode cX1_isFree 97 = .ok (.iconst 1, 1) := by decide +kernel
theorem dX1_isFree_98 : decode cX1_isFree 98 = .ok (.ireturn, 1) := by decide +kernel
theorem dX1_leftmost_0 : decode cX1_leftmost 0 = .ok (.iconst (-1), 1) := by decide +kernel
theorem dX1_leftmost_1 : decode cX1_leftmost 1 = .ok (.istore_n 3, 1) := by decide +kernel
theorem dX1_leftmost_2 : decode cX1_leftmost 2 = .ok (.iconst 0, 1) := by decide +kernel
theorem dX1_leftmost_3 : decode cX1_leftmost 3 = .ok (.istore 4, 2) := by decide +kernel
theorem dX1_leftmost_5 : decode cX1_leftmost 5 = .ok (.iload 4, 2) := by decide +kernel
theorem dX1_leftmost_7 : decode cX1_leftmost 7 = .ok (.aload_n 1, 1) := by decide +kernel
theorem dX1_leftmost_8 : decode cX1_leftmost 8 = .ok (.getfield 24, 3) := by decide +kernel
theorem dX1_leftmost_11 : decode cX1_leftmost 11 = .ok (.if_icmp .ge 67, 3) := by decide +kernel
theorem dX1_leftmost_14 : decode cX1_leftmost 14 = .ok (.iload_n 3, 1) := by decide +kernel
theorem dX1_leftmost_15 : decode cX1_leftmost 15 = .ok (.iconst (-1), 1) := by decide +kernel
theorem dX1_leftmost_16 : decode cX1_leftmost 16 = .ok (.if_icmp .eq 19, 3) := by decide +kernel
theorem dX1_leftmost_19 : decode cX1_leftmost 19 = .ok (.aload_n 1, 1) := by decide +kernel
theorem dX1_leftmost_20 : decode cX1_leftmost 20 = .ok (.getfield 92, 3) := by decide +kernel
theorem dX1_leftmost_23 : decode cX1_leftmost 23 = .ok (.iload 4, 2) := by decide +kernel
theorem dX1_leftmost_25 : decode cX1_leftmost 25 = .ok (.iaload, 1) := by decide +kernel
theorem dX1_leftmost_26 : decode cX1_leftmost 26 = .ok (.aload_n 1, 1) := by decide +kernel
theorem dX1_leftmost_27 : decode cX1_leftmost 27 = .ok (.getfield 92, 3) := by decide +kernel
theorem dX1_leftmost_30 : decode cX1_leftmost 30 = .ok (.iload_n 3, 1) := by decide +kernel
theorem dX1_leftmost_31 : decode cX1_leftmost 31 = .ok (.iaload, 1) := by decide +kernel
theorem dX1_leftmost_32 : decode cX1_leftmost 32 = .ok (.if_icmp .ge 7, 3) := by decide +kernel
theorem dX1_leftmost_35 : decode cX1_leftmost 35 = .ok (.iconst 1, 1) := by decide +kernel
theorem dX1_leftmost_36 : decode cX1_leftmost 36 = .ok (.goto 4, 3) := by decide +kernel
theorem dX1_leftmost_39 : decode cX1_leftmost 39 = .ok (.iconst 0, 1) := by decide +kernel
theorem dX1_leftmost_40 : decode cX1_leftmost 40 = .ok (.istore 5, 2) := by decide +kernel
theorem dX1_leftmost_42 : decode cX1_leftmost 42 = .ok (.iload 5, 2) := by decide +kernel
theorem dX1_leftmost_44 : decode cX1_leftmost 44 = .ok (.ifCond .eq 28, 3) := by decide +kernel
theorem dX1_leftmost_47 : decode cX1_leftmost 47 = .ok (.aload_n 0, 1) := by decide +kernel
theorem dX1_leftmost_48 : decode cX1_leftmost 48 = .ok (.getfield 9, 3) := by decide +kernel
theorem dX1_leftmost_51 : decode cX1_leftmost 51 = .ok (.iload 4, 2) := by decide +kernel
theorem dX1_leftmost_53 : decode cX1_leftmost 53 = .ok (.iaload, 1) := by decide +kernel
theorem dX1_leftmost_54 : decode cX1_leftmost 54 = .ok (.iconst (-1), 1) := by decide +kernel
theorem dX1_leftmost_55 : decode cX1_leftmost 55 = .ok (.if_icmp .ne 17, 3) := by decide +kernel
theorem dX1_leftmost_58 : decode cX1_leftmost 58 = .ok (.aload_n 0, 1) := by decide +kernel
theorem dX1_leftmost_59 : decode cX1_leftmost 59 = .ok (.aload_n 1, 1) := by decide +kernel
theorem dX1_leftmost_60 : decode cX1_leftmost 60 = .ok (.iload 4, 2) := by decide +kernel
theorem dX1_leftmost_62 : decode cX1_leftmost 62 = .ok (.iload_n 2, 1) := by decide +kernel
theorem dX1_leftmost_63 : decode cX1_leftmost 63 = .ok (.invokevirtual 95, 3) := by decide +kernel
theorem dX1_leftmost_66 : decode cX1_leftmost 66 = .ok (.ifCond .eq 6, 3) := by decide +kernel
theorem dX1_leftmost_69 : decode cX1_leftmost 69 = .ok (.iload 4, 2) := by decide +kernel
theorem dX1_leftmost_71 : decode cX1_leftmost 71 = .ok (.istore_n 3, 1) := by decide +kernel
theorem dX1_leftmost_72 : decode cX1_leftmost 72 = .ok (.iinc 4 1, 3) := by decide +kernel
theorem dX1_leftmost_75 : decode cX1_leftmost 75 = .ok (.goto (-70), 3) := by decide +kernel
theorem dX1_leftmost_78 : decode cX1_leftmost 78 = .ok (.iload_n 3, 1) := by decide +kernel
theorem dX1_leftmost_79 : decode cX1_leftmost 79 = .ok (.ireturn, 1) := by decide +kernel
theorem dX1_fillTrack_0 : decode cX1_fillTrack 0 = .ok (.iconst 0, 1) := by decide +kernel
theorem dX1_fillTrack_1 : decode cX1_fillTrack 1 = .ok (.istore_n 3, 1) := by decide +kernel
theorem dX1_fillTrack_2 : decode cX1_fillTrack 2 = .ok (.iload_n 3, 1) := by decide +kernel
theorem dX1_fillTrack_3 : decode cX1_fillTrack 3 = .ok (.aload_n 1, 1) := by decide +kernel
theorem dX1_fillTrack_4 : decode cX1_fillTrack 4 = .ok (.getfield 24, 3) := by decide +kernel
theorem dX1_fillTrack_7 : decode cX1_fillTrack 7 = .ok (.if_icmp .ge 32, 3) := by decide +kernel
theorem dX1_fillTrack_10 : decode cX1_fillTrack 10 = .ok (.aload_n 0, 1) := by decide +kernel
theorem dX1_fillTrack_11 : decode cX1_fillTrack 11 = .ok (.aload_n 1, 1) := by decide +kernel
theorem dX1_fillTrack_12 : decode cX1_fillTrack 12 = .ok (.iload_n 2, 1) := by decide +kernel
theorem dX1_fillTrack_13 : decode cX1_fillTrack 13 = .ok (.invokevirtual 88, 3) := by decide +kernel
theorem dX1_fillTrack_16 : decode cX1_fillTrack 16 = .ok (.istore 4, 2) := by decide +kernel
theorem dX1_fillTrack_18 : decode cX1_fillTrack 18 = .ok (.iload 4, 2) := by decide +kernel
theorem dX1_fillTrack_20 : decode cX1_fillTrack 20 = .ok (.iconst (-1), 1) := by decide +kernel
theorem dX1_fillTrack_21 : decode cX1_fillTrack 21 = .ok (.if_icmp .ne 4, 3) := by decide +kernel
theorem dX1_fillTrack_24 : decode cX1_fillTrack 24 = .ok (.return_, 1) := by decide +kernel
theorem dX1_fillTrack_25 : decode cX1_fillTrack 25 = .ok (.aload_n 0, 1) := by decide +kernel
theorem dX1_fillTrack_26 : decode cX1_fillTrack 26 = .ok (.getfield 9, 3) := by decide +kernel
theorem dX1_fillTrack_29 : decode cX1_fillTrack 29 = .ok (.iload 4, 2) := by decide +kernel
theorem dX1_fillTrack_31 : decode cX1_fillTrack 31 = .ok (.iload_n 2, 1) := by decide +kernel
theorem dX1_fillTrack_32 : decode cX1_fillTrack 32 = .ok (.iastore, 1) := by decide +kernel
theorem dX1_fillTrack_33 : decode cX1_fillTrack 33 = .ok (.iinc 3 1, 3) := by decide +kernel
theorem dX1_fillTrack_36 : decode cX1_fillTrack 36 = .ok (.goto (-34), 3) := by decide +kernel
theorem dX1_fillTrack_39 : decode cX1_fillTrack 39 = .ok (.return_, 1) := by decide +kernel
theorem dX1_fillFromLeft_0 : decode cX1_fillFromLeft 0 = .ok (.aload_n 0, 1) := by decide +kernel
theorem dX1_fillFromLeft_1 : decode cX1_fillFromLeft 1 = .ok (.invokevirtual 15, 3) := by decide +kernel
theorem dX1_fillFromLeft_4 : decode cX1_fillFromLeft 4 = .ok (.iconst 0, 1) := by decide +kernel
theorem dX1_fillFromLeft_5 : decode cX1_fillFromLeft 5 = .ok (.istore_n 2, 1) := by decide +kernel
theorem dX1_fillFromLeft_6 : decode cX1_fillFromLeft 6 = .ok (.iload_n 2, 1) := by decide +kernel
theorem dX1_fillFromLeft_7 : decode cX1_fillFromLeft 7 = .ok (.bipush 14, 2) := by decide +kernel
theorem dX1_fillFromLeft_9 : decode cX1_fillFromLeft 9 = .ok (.if_icmp .ge 15, 3) := by decide +kernel
theorem dX1_fillFromLeft_12 : decode cX1_fillFromLeft 12 = .ok (.aload_n 0, 1) := by decide +kernel
theorem dX1_fillFromLeft_13 : decode cX1_fillFromLeft 13 = .ok (.aload_n 1, 1) := by decide +kernel
theorem dX1_fillFromLeft_14 : decode cX1_fillFromLeft 14 = .ok (.iload_n 2, 1) := by decide +kernel
theorem dX1_fillFromLeft_15 : decode cX1_fillFromLeft 15 = .ok (.invokevirtual 84, 3) := by decide +kernel
theorem dX1_fillFromLeft_18 : decode cX1_fillFromLeft 18 = .ok (.iinc 2 1, 3) := by decide +kernel
theorem dX1_fillFromLeft_21 : decode cX1_fillFromLeft 21 = .ok (.goto (-15), 3) := by decide +kernel
theorem dX1_fillFromLeft_24 : decode cX1_fillFromLeft 24 = .ok (.return_, 1) := by decide +kernel
theorem dX1_placeFrom_0 : decode cX1_placeFrom 0 = .ok (.iload_n 2, 1) := by decide +kernel
theorem dX1_placeFrom_1 : decode cX1_placeFrom 1 = .ok (.aload_n 1, 1) := by decide +kernel
theorem dX1_placeFrom_2 : decode cX1_placeFrom 2 = .ok (.getfield 24, 3) := by decide +kernel
theorem dX1_placeFrom_5 : decode cX1_placeFrom 5 = .ok (.if_icmp .ge 9, 3) := by decide +kernel
theorem dX1_placeFrom_8 : decode cX1_placeFrom 8 = .ok (.iload_n 2, 1) := by decide +kernel
theorem dX1_placeFrom_9 : decode cX1_placeFrom 9 = .ok (.bipush 8, 2) := by decide +kernel
theorem dX1_placeFrom_11 : decode cX1_placeFrom 11 = .ok (.if_icmp .lt 5, 3) := by decide +kernel
theorem dX1_placeFrom_14 : decode cX1_placeFrom 14 = .ok (.iconst 1, 1) := by decide +kernel
theorem dX1_placeFrom_15 : decode cX1_placeFrom 15 = .ok (.ireturn, 1) := by decide +kernel
theorem dX1_placeFrom_16 : decode cX1_placeFrom 16 = .ok (.aload_n 1, 1) := by decide +kernel
theorem dX1_placeFrom_17 : decode cX1_placeFrom 17 = .ok (.getfield 102, 3) := by decide +kernel
theorem dX1_placeFrom_20 : decode cX1_placeFrom 20 = .ok (.iload_n 2, 1) := by decide +kernel
theorem dX1_placeFrom_21 : decode cX1_placeFrom 21 = .ok (.iaload, 1) := by decide +kernel
theorem dX1_placeFrom_22 : decode cX1_placeFrom 22 = .ok (.istore 4, 2) := by decide +kernel
theorem dX1_placeFrom_24 : decode cX1_placeFrom 24 = .ok (.iload 4, 2) := by decide +kernel
theorem dX1_placeFrom_26 : decode cX1_placeFrom 26 = .ok (.iload_n 3, 1) := by decide +kernel
theorem dX1_placeFrom_27 : decode cX1_placeFrom 27 = .ok (.aload_n 1, 1) := by decide +kernel
theorem dX1_placeFrom_28 : decode cX1_placeFrom 28 = .ok (.getfield 105, 3) := by decide +kernel
theorem dX1_placeFrom_31 : decode cX1_placeFrom 31 = .ok (.iload_n 2, 1) := by decide +kernel
theorem dX1_placeFrom_32 : decode cX1_placeFrom 32 = .ok (.iaload, 1) := by decide +kernel
theorem dX1_placeFrom_33 : decode cX1_placeFrom 33 = .ok (.isub, 1) := by decide +kernel
theorem dX1_placeFrom_34 : decode cX1_placeFrom 34 = .ok (.if_icmp .ge 40, 3) := by decide +kernel
theorem dX1_placeFrom_37 : decode cX1_placeFrom 37 = .ok (.aload_n 0, 1) := by decide +kernel
theorem dX1_placeFrom_38 : decode cX1_placeFrom 38 = .ok (.getfield 9, 3) := by decide +kernel
theorem dX1_placeFrom_41 : decode cX1_placeFrom 41 = .ok (.iload_n 2, 1) := by decide +kernel
theorem dX1_placeFrom_42 : decode cX1_placeFrom 42 = .ok (.iload 4, 2) := by decide +kernel
theorem dX1_placeFrom_44 : decode cX1_placeFrom 44 = .ok (.iastore, 1) := by decide +kernel
theorem dX1_placeFrom_45 : decode cX1_placeFrom 45 = .ok (.aload_n 0, 1) := by decide +kernel
theorem dX1_placeFrom_46 : decode cX1_placeFrom 46 = .ok (.aload_n 1, 1) := by decide +kernel
theorem dX1_placeFrom_47 : decode cX1_placeFrom 47 = .ok (.iload_n 2, 1) := by decide +kernel
theorem dX1_placeFrom_48 : decode cX1_placeFrom 48 = .ok (.invokevirtual 30, 3) := by decide +kernel
theorem dX1_placeFrom_51 : decode cX1_placeFrom 51 = .ok (.ifCond .eq 17, 3) := by decide +kernel
theorem dX1_placeFrom_54 : decode cX1_placeFrom 54 = .ok (.aload_n 0, 1) := by decide +kernel
theorem dX1_placeFrom_55 : decode cX1_placeFrom 55 = .ok (.aload_n 1, 1) := by decide +kernel
theorem dX1_placeFrom_56 : decode cX1_placeFrom 56 = .ok (.iload_n 2, 1) := by decide +kernel
theorem dX1_placeFrom_57 : decode cX1_placeFrom 57 = .ok (.iconst 1, 1) := by decide +kernel
theorem dX1_placeFrom_58 : decode cX1_placeFrom 58 = .ok (.iadd, 1) := by decide +kernel
theorem dX1_placeFrom_59 : decode cX1_placeFrom 59 = .ok (.iload_n 3, 1) := by decide +kernel
theorem dX1_placeFrom_60 : decode cX1_placeFrom 60 = .ok (.invokevirtual 99, 3) := by decide +kernel
theorem dX1_placeFrom_63 : decode cX1_placeFrom 63 = .ok (.ifCond .eq 5, 3) := by decide +kernel
theorem dX1_placeFrom_66 : decode cX1_placeFrom 66 = .ok (.iconst 1, 1) := by decide +kernel
theorem dX1_placeFrom_67 : decode cX1_placeFrom 67 = .ok (.ireturn, 1) := by decide +kernel
theorem dX1_placeFrom_68 : decode cX1_placeFrom 68 = .ok (.iinc 4 1, 3) := by decide +kernel
theorem dX1_placeFrom_71 : decode cX1_placeFrom 71 = .ok (.goto (-47), 3) := by decide +kernel
theorem dX1_placeFrom_74 : decode cX1_placeFrom 74 = .ok (.aload_n 0, 1) := by decide +kernel
theorem dX1_placeFrom_75 : decode cX1_placeFrom 75 = .ok (.getfield 9, 3) := by decide +kernel
theorem dX1_placeFrom_78 : decode cX1_placeFrom 78 = .ok (.iload_n 2, 1) := by decide +kernel
theorem dX1_placeFrom_79 : decode cX1_placeFrom 79 = .ok (.iconst (-1), 1) := by decide +kernel
theorem dX1_placeFrom_80 : decode cX1_placeFrom 80 = .ok (.iastore, 1) := by decide +kernel
theorem dX1_placeFrom_81 : decode cX1_placeFrom 81 = .ok (.iconst 0, 1) := by decide +kernel
theorem dX1_placeFrom_82 : decode cX1_placeFrom 82 = .ok (.ireturn, 1) := by decide +kernel
theorem dX1_fillBest_0 : decode cX1_fillBest 0 = .ok (.aload_n 0, 1) := by decide +kernel
theorem dX1_fillBest_1 : decode cX1_fillBest 1 = .ok (.invokevirtual 15, 3) := by decide +kernel
theorem dX1_fillBest_4 : decode cX1_fillBest 4 = .ok (.iload_n 2, 1) := by decide +kernel
theorem dX1_fillBest_5 : decode cX1_fillBest 5 = .ok (.istore_n 3, 1) := by decide +kernel
theorem dX1_fillBest_6 : decode cX1_fillBest 6 = .ok (.iload_n 3, 1) := by decide +kernel
theorem dX1_fillBest_7 : decode cX1_fillBest 7 = .ok (.aload_n 1, 1) := by decide +kernel
theorem dX1_fillBest_8 : decode cX1_fillBest 8 = .ok (.getfield 24, 3) := by decide +kernel
theorem dX1_fillBest_11 : decode cX1_fillBest 11 = .ok (.if_icmp .gt 20, 3) := by decide +kernel
theorem dX1_fillBest_14 : decode cX1_fillBest 14 = .ok (.aload_n 0, 1) := by decide +kernel
theorem dX1_fillBest_15 : decode cX1_fillBest 15 = .ok (.aload_n 1, 1) := by decide +kernel
theorem dX1_fillBest_16 : decode cX1_fillBest 16 = .ok (.iconst 0, 1) := by decide +kernel
theorem dX1_fillBest_17 : decode cX1_fillBest 17 = .ok (.iload_n 3, 1) := by decide +kernel
theorem dX1_fillBest_18 : decode cX1_fillBest 18 = .ok (.invokevirtual 99, 3) := by decide +kernel
theorem dX1_fillBest_21 : decode cX1_fillBest 21 = .ok (.ifCond .eq 4, 3) := by decide +kernel
theorem dX1_fillBest_24 : decode cX1_fillBest 24 = .ok (.return_, 1) := by decide +kernel
theorem dX1_fillBest_25 : decode cX1_fillBest 25 = .ok (.iinc 3 1, 3) := by decide +kernel
theorem dX1_fillBest_28 : decode cX1_fillBest 28 = .ok (.goto (-22), 3) := by decide +kernel
theorem dX1_fillBest_31 : decode cX1_fillBest 31 = .ok (.return_, 1) := by decide +kernel
theorem dX3_hasCycle_0 : decode cX3_hasCycle 0 = .ok (.aload_n 0, 1) := by decide +kernel
theorem dX3_hasCycle_1 : decode cX3_hasCycle 1 = .ok (.getfield 80, 3) := by decide +kernel
theorem dX3_hasCycle_4 : decode cX3_hasCycle 4 = .ok (.iconst (-1), 1) := by decide +kernel
theorem dX3_hasCycle_5 : decode cX3_hasCycle 5 = .ok (.if_icmp .ne 7, 3) := by decide +kernel
theorem dX3_hasCycle_8 : decode cX3_hasCycle 8 = .ok (.iconst 1, 1) := by decide +kernel
theorem dX3_hasCycle_9 : decode cX3_hasCycle 9 = .ok (.goto 4, 3) := by decide +kernel
theorem dX3_hasCycle_12 : decode cX3_hasCycle 12 = .ok (.iconst 0, 1) := by decide +kernel
theorem dX3_hasCycle_13 : decode cX3_hasCycle 13 = .ok (.ireturn, 1) := by decide +kernel
theorem dX3_belowAny_0 : decode cX3_belowAny 0 = .ok (.iconst 0, 1) := by decide +kernel
theorem dX3_belowAny_1 : decode cX3_belowAny 1 = .ok (.istore_n 2, 1) := by decide +kernel
theorem dX3_belowAny_2 : decode cX3_belowAny 2 = .ok (.iconst 0, 1) := by decide +kernel
theorem dX3_belowAny_3 : decode cX3_belowAny 3 = .ok (.istore_n 3, 1) := by decide +kernel
theorem dX3_belowAny_4 : decode cX3_belowAny 4 = .ok (.iload_n 3, 1) := by decide +kernel
theorem dX3_belowAny_5 : decode cX3_belowAny 5 = .ok (.aload_n 0, 1) := by decide +kernel
theorem dX3_belowAny_6 : decode cX3_belowAny 6 = .ok (.getfield 36, 3) := by decide +kernel
theorem dX3_belowAny_9 : decode cX3_belowAny 9 = .ok (.if_icmp .ge 26, 3) := by decide +kernel
theorem dX3_belowAny_12 : decode cX3_belowAny 12 = .ok (.iload_n 1, 1) := by decide +kernel
theorem dX3_belowAny_13 : decode cX3_belowAny 13 = .ok (.iconst 1, 1) := by decide +kernel
theorem dX3_belowAny_14 : decode cX3_belowAny 14 = .ok (.iload_n 3, 1) := by decide +kernel
theorem dX3_belowAny_15 : decode cX3_belowAny 15 = .ok (.ishl, 1) := by decide +kernel
theorem dX3_belowAny_16 : decode cX3_belowAny 16 = .ok (.iand, 1) := by decide +kernel
theorem dX3_belowAny_17 : decode cX3_belowAny 17 = .ok (.ifCond .eq 12, 3) := by decide +kernel
theorem dX3_belowAny_20 : decode cX3_belowAny 20 = .ok (.iload_n 2, 1) := by decide +kernel
theorem dX3_belowAny_21 : decode cX3_belowAny 21 = .ok (.aload_n 0, 1) := by decide +kernel
theorem dX3_belowAny_22 : decode cX3_belowAny 22 = .ok (.getfield 21, 3) := by decide +kernel
theorem dX3_belowAny_25 : decode cX3_belowAny 25 = .ok (.iload_n 3, 1) := by decide +kernel
theorem dX3_belowAny_26 : decode cX3_belowAny 26 = .ok (.iaload, 1) := by decide +kernel
theorem dX3_belowAny_27 : decode cX3_belowAny 27 = .ok (.ior, 1) := by decide +kernel
theorem dX3_belowAny_28 : decode cX3_belowAny 28 = .ok (.istore_n 2, 1) := by decide +kernel
theorem dX3_belowAny_29 : decode cX3_belowAny 29 = .ok (.iinc 3 1, 3) := by decide +kernel
theorem dX3_belowAny_32 : decode cX3_belowAny 32 = .ok (.goto (-28), 3) := by decide +kernel
theorem dX3_belowAny_35 : decode cX3_belowAny 35 = .ok (.iload_n 2, 1) := by decide +kernel
theorem dX3_belowAny_36 : decode cX3_belowAny 36 = .ok (.ireturn, 1) := by decide +kernel
theorem dX3_steps_0 : decode cX3_steps 0 = .ok (.aload_n 0, 1) := by decide +kernel
theorem dX3_steps_1 : decode cX3_steps 1 = .ok (.getfield 21, 3) := by decide +kernel
theorem dX3_steps_4 : decode cX3_steps 4 = .ok (.iload_n 1, 1) := by decide +kernel
theorem dX3_steps_5 : decode cX3_steps 5 = .ok (.iaload, 1) := by decide +kernel
theorem dX3_steps_6 : decode cX3_steps 6 = .ok (.istore_n 3, 1) := by decide +kernel
theorem dX3_steps_7 : decode cX3_steps 7 = .ok (.iconst 1, 1) := by decide +kernel
theorem dX3_steps_8 : decode cX3_steps 8 = .ok (.istore 4, 2) := by decide +kernel
theorem dX3_steps_10 : decode cX3_steps 10 = .ok (.iload 4, 2) := by decide +kernel
theorem dX3_steps_12 : decode cX3_steps 12 = .ok (.aload_n 0, 1) := by decide +kernel
theorem dX3_steps_13 : decode cX3_steps 13 = .ok (.getfield 36, 3) := by decide +kernel
theorem dX3_steps_16 : decode cX3_steps 16 = .ok (.if_icmp .gt 28, 3) := by decide +kernel
theorem dX3_steps_19 : decode cX3_steps 19 = .ok (.iload_n 3, 1) := by decide +kernel
theorem dX3_steps_20 : decode cX3_steps 20 = .ok (.iconst 1, 1) := by decide +kernel
theorem dX3_steps_21 : decode cX3_steps 21 = .ok (.iload_n 2, 1) := by decide +kernel
theorem dX3_steps_22 : decode cX3_steps 22 = .ok (.ishl, 1) := by decide +kernel
theorem dX3_steps_23 : decode cX3_steps 23 = .ok (.iand, 1) := by decide +kernel
theorem dX3_steps_24 : decode cX3_steps 24 = .ok (.ifCond .eq 6, 3) := by decide +kernel
theorem dX3_steps_27 : decode cX3_steps 27 = .ok (.iload 4, 2) := by decide +kernel
theorem dX3_steps_29 : decode cX3_steps 29 = .ok (.ireturn, 1) := by decide +kernel
theorem dX3_steps_30 : decode cX3_steps 30 = .ok (.iload_n 3, 1) := by decide +kernel
theorem dX3_steps_31 : decode cX3_steps 31 = .ok (.aload_n 0, 1) := by decide +kernel
theorem dX3_steps_32 : decode cX3_steps 32 = .ok (.iload_n 3, 1) := by decide +kernel
theorem dX3_steps_33 : decode cX3_steps 33 = .ok (.invokevirtual 95, 3) := by decide +kernel
theorem dX3_steps_36 : decode cX3_steps 36 = .ok (.ior, 1) := by decide +kernel
theorem dX3_steps_37 : decode cX3_steps 37 = .ok (.istore_n 3, 1) := by decide +kernel
theorem dX3_steps_38 : decode cX3_steps 38 = .ok (.iinc 4 1, 3) := by decide +kernel
theorem dX3_steps_41 : decode cX3_steps 41 = .ok (.goto (-31), 3) := by decide +kernel
theorem dX3_steps_44 : decode cX3_steps 44 = .ok (.iconst (-1), 1) := by decide +kernel
theorem dX3_steps_45 : decode cX3_steps 45 = .ok (.ireturn, 1) := by decide +kernel
theorem dX2_startOfShortest_0 : decode cX2_startOfShortest 0 = .ok (.iconst (-1), 1) := by decide +kernel
theorem dX2_startOfShortest_1 : decode cX2_startOfShortest 1 = .ok (.istore_n 1, 1) := by decide +kernel
theorem dX2_startOfShortest_2 : decode cX2_startOfShortest 2 = .ok (.aload_n 0, 1) := by decide +kernel
theorem dX2_startOfShortest_3 : decode cX2_startOfShortest 3 = .ok (.invokevirtual 33, 3) := by decide +kernel
theorem dX2_startOfShortest_6 : decode cX2_startOfShortest 6 = .ok (.ifCond .ne 5, 3) := by decide +kernel
theorem dX2_startOfShortest_9 : decode cX2_startOfShortest 9 = .ok (.iload_n 1, 1) := by decide +kernel
theorem dX2_startOfShortest_10 : decode cX2_startOfShortest 10 = .ok (.ireturn, 1) := by decide +kernel
theorem dX2_startOfShortest_11 : decode cX2_startOfShortest 11 = .ok (.aload_n 0, 1) := by decide +kernel
theorem dX2_startOfShortest_12 : decode cX2_startOfShortest 12 = .ok (.getfield 37, 3) := by decide +kernel
theorem dX2_startOfShortest_15 : decode cX2_startOfShortest 15 = .ok (.iconst 1, 1) := by decide +kernel
theorem dX2_startOfShortest_16 : decode cX2_startOfShortest 16 = .ok (.iadd, 1) := by decide +kernel
theorem dX2_startOfShortest_17 : decode cX2_startOfShortest 17 = .ok (.istore_n 2, 1) := by decide +kernel
theorem dX2_startOfShortest_18 : decode cX2_startOfShortest 18 = .ok (.iconst 0, 1) := by decide +kernel
theorem dX2_startOfShortest_19 : decode cX2_startOfShortest 19 = .ok (.istore_n 3, 1) := by decide +kernel
theorem dX2_startOfShortest_20 : decode cX2_startOfShortest 20 = .ok (.iload_n 3, 1) := by decide +kernel
theorem dX2_startOfShortest_21 : decode cX2_startOfShortest 21 = .ok (.aload_n 0, 1) := by decide +kernel
theorem dX2_startOfShortest_22 : decode cX2_startOfShortest 22 = .ok (.getfield 37, 3) := by decide +kernel
theorem dX2_startOfShortest_25 : decode cX2_startOfShortest 25 = .ok (.if_icmp .ge 34, 3) := by decide +kernel
theorem dX2_startOfShortest_28 : decode cX2_startOfShortest 28 = .ok (.aload_n 0, 1) := by decide +kernel
theorem dX2_startOfShortest_29 : decode cX2_startOfShortest 29 = .ok (.iload_n 3, 1) := by decide +kernel
theorem dX2_startOfShortest_30 : decode cX2_startOfShortest 30 = .ok (.iload_n 3, 1) := by decide +kernel
theorem dX2_startOfShortest_31 : decode cX2_startOfShortest 31 = .ok (.invokevirtual 23, 3) := by decide +kernel
theorem dX2_startOfShortest_34 : decode cX2_startOfShortest 34 = .ok (.istore 4, 2) := by decide +kernel
theorem dX2_startOfShortest_36 : decode cX2_startOfShortest 36 = .ok (.iload 4, 2) := by decide +kernel
theorem dX2_startOfShortest_38 : decode cX2_startOfShortest 38 = .ok (.iconst (-1), 1) := by decide +kernel
theorem dX2_startOfShortest_39 : decode cX2_startOfShortest 39 = .ok (.if_icmp .eq 14, 3) := by decide +kernel
theorem dX2_startOfShortest_42 : decode cX2_startOfShortest 42 = .ok (.iload 4, 2) := by decide +kernel
theorem dX2_startOfShortest_44 : decode cX2_startOfShortest 44 = .ok (.iload_n 2, 1) := by decide +kernel
theorem dX2_startOfShortest_45 : decode cX2_startOfShortest 45 = .ok (.if_icmp .ge 8, 3) := by decide +kernel
theorem dX2_startOfShortest_48 : decode cX2_startOfShortest 48 = .ok (.iload_n 3, 1) := by decide +kernel
theorem dX2_startOfShortest_49 : decode cX2_startOfShortest 49 = .ok (.istore_n 1, 1) := by decide +kernel
theorem dX2_startOfShortest_50 : decode cX2_startOfShortest 50 = .ok (.iload 4, 2) := by decide +kernel
theorem dX2_startOfShortest_52 : decode cX2_startOfShortest 52 = .ok (.istore_n 2, 1) := by decide +kernel
theorem dX2_startOfShortest_53 : decode cX2_startOfShortest 53 = .ok (.iinc 3 1, 3) := by decide +kernel
theorem dX2_startOfShortest_56 : decode cX2_startOfShortest 56 = .ok (.goto (-36), 3) := by decide +kernel
theorem dX2_startOfShortest_59 : decode cX2_startOfShortest 59 = .ok (.iload_n 1, 1) := by decide +kernel
theorem dX2_startOfShortest_60 : decode cX2_startOfShortest 60 = .ok (.ireturn, 1) := by decide +kernel
theorem dX2_next_0 : decode cX2_next 0 = .ok (.iconst 0, 1) := by decide +kernel
theorem dX2_next_1 : decode cX2_next 1 = .ok (.istore 4, 2) := by decide +kernel
theorem dX2_next_3 : decode cX2_next 3 = .ok (.iload 4, 2) := by decide +kernel
theorem dX2_next_5 : decode cX2_next 5 = .ok (.aload_n 0, 1) := by decide +kernel
theorem dX2_next_6 : decode cX2_next 6 = .ok (.getfield 37, 3) := by decide +kernel
theorem dX2_next_9 : decode cX2_next 9 = .ok (.if_icmp .ge 33, 3) := by decide +kernel
theorem dX2_next_12 : decode cX2_next 12 = .ok (.aload_n 0, 1) := by decide +kernel
theorem dX2_next_13 : decode cX2_next 13 = .ok (.iload_n 1, 1) := by decide +kernel
theorem dX2_next_14 : decode cX2_next 14 = .ok (.iload 4, 2) := by decide +kernel
theorem dX2_next_16 : decode cX2_next 16 = .ok (.invokevirtual 40, 3) := by decide +kernel
theorem dX2_next_19 : decode cX2_next 19 = .ok (.ifCond .eq 17, 3) := by decide +kernel
theorem dX2_next_22 : decode cX2_next 22 = .ok (.aload_n 0, 1) := by decide +kernel
theorem dX2_next_23 : decode cX2_next 23 = .ok (.iload 4, 2) := by decide +kernel
theorem dX2_next_25 : decode cX2_next 25 = .ok (.iload_n 2, 1) := by decide +kernel
theorem dX2_next_26 : decode cX2_next 26 = .ok (.invokevirtual 23, 3) := by decide +kernel
theorem dX2_next_29 : decode cX2_next 29 = .ok (.iload_n 3, 1) := by decide +kernel
theorem dX2_next_30 : decode cX2_next 30 = .ok (.if_icmp .ne 6, 3) := by decide +kernel
theorem dX2_next_33 : decode cX2_next 33 = .ok (.iload 4, 2) := by decide +kernel
theorem dX2_next_35 : decode cX2_next 35 = .ok (.ireturn, 1) := by decide +kernel
theorem dX2_next_36 : decode cX2_next 36 = .ok (.iinc 4 1, 3) := by decide +kernel
theorem dX2_next_39 : decode cX2_next 39 = .ok (.goto (-36), 3) := by decide +kernel
theorem dX2_next_42 : decode cX2_next 42 = .ok (.iconst (-1), 1) := by decide +kernel
theorem dX2_next_43 : decode cX2_next 43 = .ok (.ireturn, 1) := by decide +kernel
theorem dX2_find_0 : decode cX2_find 0 = .ok (.aload_n 0, 1) := by decide +kernel
theorem dX2_find_1 : decode cX2_find 1 = .ok (.iconst 0, 1) := by decide +kernel
theorem dX2_find_2 : decode cX2_find 2 = .ok (.putfield 15, 3) := by decide +kernel
theorem dX2_find_5 : decode cX2_find 5 = .ok (.aload_n 1, 1) := by decide +kernel
theorem dX2_find_6 : decode cX2_find 6 = .ok (.invokestatic 19, 3) := by decide +kernel
theorem dX2_find_9 : decode cX2_find 9 = .ok (.istore_n 2, 1) := by decide +kernel
theorem dX2_find_10 : decode cX2_find 10 = .ok (.iload_n 2, 1) := by decide +kernel
theorem dX2_find_11 : decode cX2_find 11 = .ok (.iconst (-1), 1) := by decide +kernel
theorem dX2_find_12 : decode cX2_find 12 = .ok (.if_icmp .ne 4, 3) := by decide +kernel
theorem dX2_find_15 : decode cX2_find 15 = .ok (.return_, 1) := by decide +kernel
theorem dX2_find_16 : decode cX2_find 16 = .ok (.aload_n 1, 1) := by decide +kernel
theorem dX2_find_17 : decode cX2_find 17 = .ok (.iload_n 2, 1) := by decide +kernel
theorem dX2_find_18 : decode cX2_find 18 = .ok (.iload_n 2, 1) := by decide +kernel
theorem dX2_find_19 : decode cX2_find 19 = .ok (.invokevirtual 23, 3) := by decide +kernel
theorem dX2_find_22 : decode cX2_find 22 = .ok (.istore_n 3, 1) := by decide +kernel
theorem dX2_find_23 : decode cX2_find 23 = .ok (.iload_n 2, 1) := by decide +kernel
theorem dX2_find_24 : decode cX2_find 24 = .ok (.istore 4, 2) := by decide +kernel
theorem dX2_find_26 : decode cX2_find 26 = .ok (.iload 4, 2) := by decide +kernel
theorem dX2_find_28 : decode cX2_find 28 = .ok (.iconst (-1), 1) := by decide +kernel
theorem dX2_find_29 : decode cX2_find 29 = .ok (.if_icmp .eq 59, 3) := by decide +kernel
theorem dX2_find_32 : decode cX2_find 32 = .ok (.aload_n 0, 1) := by decide +kernel
theorem dX2_find_33 : decode cX2_find 33 = .ok (.getfield 15, 3) := by decide +kernel
theorem dX2_find_36 : decode cX2_find 36 = .ok (.iload_n 3, 1) := by decide +kernel
theorem dX2_find_37 : decode cX2_find 37 = .ok (.if_icmp .ge 51, 3) := by decide +kernel
theorem dX2_find_40 : decode cX2_find 40 = .ok (.aload_n 0, 1) := by decide +kernel
theorem dX2_find_41 : decode cX2_find 41 = .ok (.getfield 15, 3) := by decide +kernel
theorem dX2_find_44 : decode cX2_find 44 = .ok (.bipush 14, 2) := by decide +kernel
theorem dX2_find_46 : decode cX2_find 46 = .ok (.if_icmp .ge 42, 3) := by decide +kernel
theorem dX2_find_49 : decode cX2_find 49 = .ok (.aload_n 0, 1) := by decide +kernel
theorem dX2_find_50 : decode cX2_find 50 = .ok (.getfield 9, 3) := by decide +kernel
theorem dX2_find_53 : decode cX2_find 53 = .ok (.aload_n 0, 1) := by decide +kernel
theorem dX2_find_54 : decode cX2_find 54 = .ok (.getfield 15, 3) := by decide +kernel
theorem dX2_find_57 : decode cX2_find 57 = .ok (.iload 4, 2) := by decide +kernel
theorem dX2_find_59 : decode cX2_find 59 = .ok (.iastore, 1) := by decide +kernel
theorem dX2_find_60 : decode cX2_find 60 = .ok (.aload_n 0, 1) := by decide +kernel
theorem dX2_find_61 : decode cX2_find 61 = .ok (.dup, 1) := by decide +kernel
theorem dX2_find_62 : decode cX2_find 62 = .ok (.getfield 15, 3) := by decide +kernel
theorem dX2_find_65 : decode cX2_find 65 = .ok (.iconst 1, 1) := by decide +kernel
theorem dX2_find_66 : decode cX2_find 66 = .ok (.iadd, 1) := by decide +kernel
theorem dX2_find_67 : decode cX2_find 67 = .ok (.putfield 15, 3) := by decide +kernel
theorem dX2_find_70 : decode cX2_find 70 = .ok (.aload_n 1, 1) := by decide +kernel
theorem dX2_find_71 : decode cX2_find 71 = .ok (.iload 4, 2) := by decide +kernel
theorem dX2_find_73 : decode cX2_find 73 = .ok (.iload_n 2, 1) := by decide +kernel
theorem dX2_find_74 : decode cX2_find 74 = .ok (.iload_n 3, 1) := by decide +kernel
theorem dX2_find_75 : decode cX2_find 75 = .ok (.aload_n 0, 1) := by decide +kernel
theorem dX2_find_76 : decode cX2_find 76 = .ok (.getfield 15, 3) := by decide +kernel
theorem dX2_find_79 : decode cX2_find 79 = .ok (.isub, 1) := by decide +kernel
theorem dX2_find_80 : decode cX2_find 80 = .ok (.invokestatic 29, 3) := by decide +kernel
theorem dX2_find_83 : decode cX2_find 83 = .ok (.istore 4, 2) := by decide +kernel
theorem dX2_find_85 : decode cX2_find 85 = .ok (.goto (-59), 3) := by decide +kernel
theorem dX2_find_88 : decode cX2_find 88 = .ok (.return_, 1) := by decide +kernel
theorem dX3_freeOf_0 : decode cX3_freeOf 0 = .ok (.iconst 0, 1) := by decide +kernel
theorem dX3_freeOf_1 : decode cX3_freeOf 1 = .ok (.istore_n 3, 1) := by decide +kernel
theorem dX3_freeOf_2 : decode cX3_freeOf 2 = .ok (.iconst 0, 1) := by decide +kernel
theorem dX3_freeOf_3 : decode cX3_freeOf 3 = .ok (.istore 4, 2) := by decide +kernel
theorem dX3_freeOf_5 : decode cX3_freeOf 5 = .ok (.iload 4, 2) := by decide +kernel
theorem dX3_freeOf_7 : decode cX3_freeOf 7 = .ok (.aload_n 0, 1) := by decide +kernel
theorem dX3_freeOf_8 : decode cX3_freeOf 8 = .ok (.getfield 36, 3) := by decide +kernel
theorem dX3_freeOf_11 : decode cX3_freeOf 11 = .ok (.if_icmp .ge 34, 3) := by decide +kernel
theorem dX3_freeOf_14 : decode cX3_freeOf 14 = .ok (.iload_n 2, 1) := by decide +kernel
theorem dX3_freeOf_15 : decode cX3_freeOf 15 = .ok (.iconst 1, 1) := by decide +kernel
theorem dX3_freeOf_16 : decode cX3_freeOf 16 = .ok (.iload 4, 2) := by decide +kernel
theorem dX3_freeOf_18 : decode cX3_freeOf 18 = .ok (.ishl, 1) := by decide +kernel
theorem dX3_freeOf_19 : decode cX3_freeOf 19 = .ok (.iand, 1) := by decide +kernel
theorem dX3_freeOf_20 : decode cX3_freeOf 20 = .ok (.ifCond .eq 19, 3) := by decide +kernel
theorem dX3_freeOf_23 : decode cX3_freeOf 23 = .ok (.aload_n 1, 1) := by decide +kernel
theorem dX3_freeOf_24 : decode cX3_freeOf 24 = .ok (.iload 4, 2) := by decide +kernel
theorem dX3_freeOf_26 : decode cX3_freeOf 26 = .ok (.iaload, 1) := by decide +kernel
theorem dX3_freeOf_27 : decode cX3_freeOf 27 = .ok (.iload_n 2, 1) := by decide +kernel
theorem dX3_freeOf_28 : decode cX3_freeOf 28 = .ok (.iand, 1) := by decide +kernel
theorem dX3_freeOf_29 : decode cX3_freeOf 29 = .ok (.ifCond .ne 10, 3) := by decide +kernel
theorem dX3_freeOf_32 : decode cX3_freeOf 32 = .ok (.iload_n 3, 1) := by decide +kernel
theorem dX3_freeOf_33 : decode cX3_freeOf 33 = .ok (.iconst 1, 1) := by decide +kernel
theorem dX3_freeOf_34 : decode cX3_freeOf 34 = .ok (.iload 4, 2) := by decide +kernel
theorem dX3_freeOf_36 : decode cX3_freeOf 36 = .ok (.ishl, 1) := by decide +kernel
theorem dX3_freeOf_37 : decode cX3_freeOf 37 = .ok (.ior, 1) := by decide +kernel
theorem dX3_freeOf_38 : decode cX3_freeOf 38 = .ok (.istore_n 3, 1) := by decide +kernel
theorem dX3_freeOf_39 : decode cX3_freeOf 39 = .ok (.iinc 4 1, 3) := by decide +kernel
theorem dX3_freeOf_42 : decode cX3_freeOf 42 = .ok (.goto (-37), 3) := by decide +kernel
theorem dX3_freeOf_45 : decode cX3_freeOf 45 = .ok (.iload_n 3, 1) := by decide +kernel
theorem dX3_freeOf_46 : decode cX3_freeOf 46 = .ok (.ireturn, 1) := by decide +kernel
theorem dX3_giveRank_0 : decode cX3_giveRank 0 = .ok (.iconst 0, 1) := by decide +kernel
theorem dX3_giveRank_1 : decode cX3_giveRank 1 = .ok (.istore 4, 2) := by decide +kernel
theorem dX3_giveRank_3 : decode cX3_giveRank 3 = .ok (.iload 4, 2) := by decide +kernel
theorem dX3_giveRank_5 : decode cX3_giveRank 5 = .ok (.aload_n 0, 1) := by decide +kernel
theorem dX3_giveRank_6 : decode cX3_giveRank 6 = .ok (.getfield 36, 3) := by decide +kernel
theorem dX3_giveRank_9 : decode cX3_giveRank 9 = .ok (.if_icmp .ge 23, 3) := by decide +kernel
theorem dX3_giveRank_12 : decode cX3_giveRank 12 = .ok (.iload_n 2, 1) := by decide +kernel
theorem dX3_giveRank_13 : decode cX3_giveRank 13 = .ok (.iconst 1, 1) := by decide +kernel
theorem dX3_giveRank_14 : decode cX3_giveRank 14 = .ok (.iload 4, 2) := by decide +kernel
theorem dX3_giveRank_16 : decode cX3_giveRank 16 = .ok (.ishl, 1) := by decide +kernel
theorem dX3_giveRank_17 : decode cX3_giveRank 17 = .ok (.iand, 1) := by decide +kernel
theorem dX3_giveRank_18 : decode cX3_giveRank 18 = .ok (.ifCond .eq 8, 3) := by decide +kernel
theorem dX3_giveRank_21 : decode cX3_giveRank 21 = .ok (.aload_n 1, 1) := by decide +kernel
theorem dX3_giveRank_22 : decode cX3_giveRank 22 = .ok (.iload 4, 2) := by decide +kernel
theorem dX3_giveRank_24 : decode cX3_giveRank 24 = .ok (.iload_n 3, 1) := by decide +kernel
theorem dX3_giveRank_25 : decode cX3_giveRank 25 = .ok (.iastore, 1) := by decide +kernel
theorem dX3_giveRank_26 : decode cX3_giveRank 26 = .ok (.iinc 4 1, 3) := by decide +kernel
theorem dX3_giveRank_29 : decode cX3_giveRank 29 = .ok (.goto (-26), 3) := by decide +kernel
theorem dX3_giveRank_32 : decode cX3_giveRank 32 = .ok (.return_, 1) := by decide +kernel
theorem dX3_rank_0 : decode cX3_rank 0 = .ok (.iconst 1, 1) := by decide +kernel
theorem dX3_rank_1 : decode cX3_rank 1 = .ok (.aload_n 0, 1) := by decide +kernel
theorem dX3_rank_2 : decode cX3_rank 2 = .ok (.getfield 36, 3) := by decide +kernel
theorem dX3_rank_5 : decode cX3_rank 5 = .ok (.ishl, 1) := by decide +kernel
