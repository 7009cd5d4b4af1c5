theorem dX8_closed_5 : decode cX8_closed 5 = .ok (.aload_n 0, 1) := by decide +kernel
theorem dX8_closed_6 : decode cX8_closed 6 = .ok (.getfield 7, 3) := by decide +kernel
theorem dX8_closed_9 : decode cX8_closed 9 = .ok (.iconst 2, 1) := by decide +kernel
theorem dX8_closed_10 : decode cX8_closed 10 = .ok (.iaload, 1) := by decide +kernel
theorem dX8_closed_11 : decode cX8_closed 11 = .ok (.if_icmp .ge 18, 3) := by decide +kernel
theorem dX8_closed_14 : decode cX8_closed 14 = .ok (.iload_n 1, 1) := by decide +kernel
theorem dX8_closed_15 : decode cX8_closed 15 = .ok (.aload_n 0, 1) := by decide +kernel
theorem dX8_closed_16 : decode cX8_closed 16 = .ok (.iload_n 2, 1) := by decide +kernel
theorem dX8_closed_17 : decode cX8_closed 17 = .ok (.iconst 3, 1) := by decide +kernel
theorem dX8_closed_18 : decode cX8_closed 18 = .ok (.invokevirtual 30, 3) := by decide +kernel
theorem dX8_closed_21 : decode cX8_closed 21 = .ok (.iadd, 1) := by decide +kernel
theorem dX8_closed_22 : decode cX8_closed 22 = .ok (.istore_n 1, 1) := by decide +kernel
theorem dX8_closed_23 : decode cX8_closed 23 = .ok (.iinc 2 1, 3) := by decide +kernel
theorem dX8_closed_26 : decode cX8_closed 26 = .ok (.goto (-22), 3) := by decide +kernel
theorem dX8_closed_29 : decode cX8_closed 29 = .ok (.iload_n 1, 1) := by decide +kernel
theorem dX8_closed_30 : decode cX8_closed 30 = .ok (.ireturn, 1) := by decide +kernel
theorem dX8_sumOf_0 : decode cX8_sumOf 0 = .ok (.iconst 0, 1) := by decide +kernel
theorem dX8_sumOf_1 : decode cX8_sumOf 1 = .ok (.istore_n 2, 1) := by decide +kernel
theorem dX8_sumOf_2 : decode cX8_sumOf 2 = .ok (.iconst 0, 1) := by decide +kernel
theorem dX8_sumOf_3 : decode cX8_sumOf 3 = .ok (.istore_n 3, 1) := by decide +kernel
theorem dX8_sumOf_4 : decode cX8_sumOf 4 = .ok (.iload_n 3, 1) := by decide +kernel
theorem dX8_sumOf_5 : decode cX8_sumOf 5 = .ok (.aload_n 0, 1) := by decide +kernel
theorem dX8_sumOf_6 : decode cX8_sumOf 6 = .ok (.invokevirtual 59, 3) := by decide +kernel
theorem dX8_sumOf_9 : decode cX8_sumOf 9 = .ok (.if_icmp .ge 18, 3) := by decide +kernel
theorem dX8_sumOf_12 : decode cX8_sumOf 12 = .ok (.iload_n 2, 1) := by decide +kernel
theorem dX8_sumOf_13 : decode cX8_sumOf 13 = .ok (.aload_n 0, 1) := by decide +kernel
theorem dX8_sumOf_14 : decode cX8_sumOf 14 = .ok (.iload_n 3, 1) := by decide +kernel
theorem dX8_sumOf_15 : decode cX8_sumOf 15 = .ok (.iload_n 1, 1) := by decide +kernel
theorem dX8_sumOf_16 : decode cX8_sumOf 16 = .ok (.invokevirtual 62, 3) := by decide +kernel
theorem dX8_sumOf_19 : decode cX8_sumOf 19 = .ok (.iadd, 1) := by decide +kernel
theorem dX8_sumOf_20 : decode cX8_sumOf 20 = .ok (.istore_n 2, 1) := by decide +kernel
theorem dX8_sumOf_21 : decode cX8_sumOf 21 = .ok (.iinc 3 1, 3) := by decide +kernel
theorem dX8_sumOf_24 : decode cX8_sumOf 24 = .ok (.goto (-20), 3) := by decide +kernel
theorem dX8_sumOf_27 : decode cX8_sumOf 27 = .ok (.iload_n 2, 1) := by decide +kernel
theorem dX8_sumOf_28 : decode cX8_sumOf 28 = .ok (.ireturn, 1) := by decide +kernel
theorem dX8_leftOut_0 : decode cX8_leftOut 0 = .ok (.bipush (-5), 2) := by decide +kernel
theorem dX8_leftOut_2 : decode cX8_leftOut 2 = .ok (.istore_n 2, 1) := by decide +kernel
theorem dX8_leftOut_3 : decode cX8_leftOut 3 = .ok (.aload_n 0, 1) := by decide +kernel
theorem dX8_leftOut_4 : decode cX8_leftOut 4 = .ok (.getfield 7, 3) := by decide +kernel
theorem dX8_leftOut_7 : decode cX8_leftOut 7 = .ok (.bipush 6, 2) := by decide +kernel
theorem dX8_leftOut_9 : decode cX8_leftOut 9 = .ok (.iaload, 1) := by decide +kernel
theorem dX8_leftOut_10 : decode cX8_leftOut 10 = .ok (.ifCond .le 21, 3) := by decide +kernel
theorem dX8_leftOut_13 : decode cX8_leftOut 13 = .ok (.aload_n 0, 1) := by decide +kernel
theorem dX8_leftOut_14 : decode cX8_leftOut 14 = .ok (.invokevirtual 59, 3) := by decide +kernel
theorem dX8_leftOut_17 : decode cX8_leftOut 17 = .ok (.aload_n 0, 1) := by decide +kernel
theorem dX8_leftOut_18 : decode cX8_leftOut 18 = .ok (.getfield 7, 3) := by decide +kernel
theorem dX8_leftOut_21 : decode cX8_leftOut 21 = .ok (.bipush 6, 2) := by decide +kernel
theorem dX8_leftOut_23 : decode cX8_leftOut 23 = .ok (.iaload, 1) := by decide +kernel
theorem dX8_leftOut_24 : decode cX8_leftOut 24 = .ok (.if_icmp .lt 7, 3) := by decide +kernel
theorem dX8_leftOut_27 : decode cX8_leftOut 27 = .ok (.iconst 1, 1) := by decide +kernel
theorem dX8_leftOut_28 : decode cX8_leftOut 28 = .ok (.goto 4, 3) := by decide +kernel
theorem dX8_leftOut_31 : decode cX8_leftOut 31 = .ok (.iconst 0, 1) := by decide +kernel
theorem dX8_leftOut_32 : decode cX8_leftOut 32 = .ok (.istore_n 3, 1) := by decide +kernel
theorem dX8_leftOut_33 : decode cX8_leftOut 33 = .ok (.iconst 0, 1) := by decide +kernel
theorem dX8_leftOut_34 : decode cX8_leftOut 34 = .ok (.istore 4, 2) := by decide +kernel
theorem dX8_leftOut_36 : decode cX8_leftOut 36 = .ok (.iload 4, 2) := by decide +kernel
theorem dX8_leftOut_38 : decode cX8_leftOut 38 = .ok (.aload_n 0, 1) := by decide +kernel
theorem dX8_leftOut_39 : decode cX8_leftOut 39 = .ok (.invokevirtual 59, 3) := by decide +kernel
theorem dX8_leftOut_42 : decode cX8_leftOut 42 = .ok (.if_icmp .ge 42, 3) := by decide +kernel
theorem dX8_leftOut_45 : decode cX8_leftOut 45 = .ok (.iload_n 3, 1) := by decide +kernel
theorem dX8_leftOut_46 : decode cX8_leftOut 46 = .ok (.ifCond .eq 38, 3) := by decide +kernel
theorem dX8_leftOut_49 : decode cX8_leftOut 49 = .ok (.iload_n 2, 1) := by decide +kernel
theorem dX8_leftOut_50 : decode cX8_leftOut 50 = .ok (.bipush (-5), 2) := by decide +kernel
theorem dX8_leftOut_52 : decode cX8_leftOut 52 = .ok (.if_icmp .eq 19, 3) := by decide +kernel
theorem dX8_leftOut_55 : decode cX8_leftOut 55 = .ok (.aload_n 0, 1) := by decide +kernel
theorem dX8_leftOut_56 : decode cX8_leftOut 56 = .ok (.iload 4, 2) := by decide +kernel
theorem dX8_leftOut_58 : decode cX8_leftOut 58 = .ok (.iload_n 1, 1) := by decide +kernel
theorem dX8_leftOut_59 : decode cX8_leftOut 59 = .ok (.invokevirtual 62, 3) := by decide +kernel
theorem dX8_leftOut_62 : decode cX8_leftOut 62 = .ok (.aload_n 0, 1) := by decide +kernel
theorem dX8_leftOut_63 : decode cX8_leftOut 63 = .ok (.iload_n 2, 1) := by decide +kernel
theorem dX8_leftOut_64 : decode cX8_leftOut 64 = .ok (.iload_n 1, 1) := by decide +kernel
theorem dX8_leftOut_65 : decode cX8_leftOut 65 = .ok (.invokevirtual 62, 3) := by decide +kernel
theorem dX8_leftOut_68 : decode cX8_leftOut 68 = .ok (.if_icmp .lt 8, 3) := by decide +kernel
theorem dX8_leftOut_71 : decode cX8_leftOut 71 = .ok (.iload 4, 2) := by decide +kernel
theorem dX8_leftOut_73 : decode cX8_leftOut 73 = .ok (.goto 4, 3) := by decide +kernel
theorem dX8_leftOut_76 : decode cX8_leftOut 76 = .ok (.iload_n 2, 1) := by decide +kernel
theorem dX8_leftOut_77 : decode cX8_leftOut 77 = .ok (.istore_n 2, 1) := by decide +kernel
theorem dX8_leftOut_78 : decode cX8_leftOut 78 = .ok (.iinc 4 1, 3) := by decide +kernel
theorem dX8_leftOut_81 : decode cX8_leftOut 81 = .ok (.goto (-45), 3) := by decide +kernel
theorem dX8_leftOut_84 : decode cX8_leftOut 84 = .ok (.iload_n 2, 1) := by decide +kernel
theorem dX8_leftOut_85 : decode cX8_leftOut 85 = .ok (.ireturn, 1) := by decide +kernel
theorem dX8_total_0 : decode cX8_total 0 = .ok (.aload_n 0, 1) := by decide +kernel
theorem dX8_total_1 : decode cX8_total 1 = .ok (.iload_n 1, 1) := by decide +kernel
theorem dX8_total_2 : decode cX8_total 2 = .ok (.invokevirtual 65, 3) := by decide +kernel
theorem dX8_total_5 : decode cX8_total 5 = .ok (.istore_n 2, 1) := by decide +kernel
theorem dX8_total_6 : decode cX8_total 6 = .ok (.aload_n 0, 1) := by decide +kernel
theorem dX8_total_7 : decode cX8_total 7 = .ok (.iload_n 1, 1) := by decide +kernel
theorem dX8_total_8 : decode cX8_total 8 = .ok (.invokevirtual 69, 3) := by decide +kernel
theorem dX8_total_11 : decode cX8_total 11 = .ok (.iload_n 2, 1) := by decide +kernel
theorem dX8_total_12 : decode cX8_total 12 = .ok (.bipush (-5), 2) := by decide +kernel
theorem dX8_total_14 : decode cX8_total 14 = .ok (.if_icmp .ne 7, 3) := by decide +kernel
theorem dX8_total_17 : decode cX8_total 17 = .ok (.iconst 0, 1) := by decide +kernel
theorem dX8_total_18 : decode cX8_total 18 = .ok (.goto 9, 3) := by decide +kernel
theorem dX8_total_21 : decode cX8_total 21 = .ok (.aload_n 0, 1) := by decide +kernel
theorem dX8_total_22 : decode cX8_total 22 = .ok (.iload_n 2, 1) := by decide +kernel
theorem dX8_total_23 : decode cX8_total 23 = .ok (.iload_n 1, 1) := by decide +kernel
theorem dX8_total_24 : decode cX8_total 24 = .ok (.invokevirtual 62, 3) := by decide +kernel
theorem dX8_total_27 : decode cX8_total 27 = .ok (.isub, 1) := by decide +kernel
theorem dX8_total_28 : decode cX8_total 28 = .ok (.ireturn, 1) := by decide +kernel
theorem dX8_placesOf_0 : decode cX8_placesOf 0 = .ok (.iconst 0, 1) := by decide +kernel
theorem dX8_placesOf_1 : decode cX8_placesOf 1 = .ok (.istore_n 3, 1) := by decide +kernel
theorem dX8_placesOf_2 : decode cX8_placesOf 2 = .ok (.iconst 0, 1) := by decide +kernel
theorem dX8_placesOf_3 : decode cX8_placesOf 3 = .ok (.istore 4, 2) := by decide +kernel
theorem dX8_placesOf_5 : decode cX8_placesOf 5 = .ok (.iload 4, 2) := by decide +kernel
theorem dX8_placesOf_7 : decode cX8_placesOf 7 = .ok (.aload_n 0, 1) := by decide +kernel
theorem dX8_placesOf_8 : decode cX8_placesOf 8 = .ok (.invokevirtual 59, 3) := by decide +kernel
theorem dX8_placesOf_11 : decode cX8_placesOf 11 = .ok (.if_icmp .ge 28, 3) := by decide +kernel
theorem dX8_placesOf_14 : decode cX8_placesOf 14 = .ok (.iload_n 3, 1) := by decide +kernel
theorem dX8_placesOf_15 : decode cX8_placesOf 15 = .ok (.aload_n 0, 1) := by decide +kernel
theorem dX8_placesOf_16 : decode cX8_placesOf 16 = .ok (.iload 4, 2) := by decide +kernel
theorem dX8_placesOf_18 : decode cX8_placesOf 18 = .ok (.iload_n 1, 1) := by decide +kernel
theorem dX8_placesOf_19 : decode cX8_placesOf 19 = .ok (.invokevirtual 56, 3) := by decide +kernel
theorem dX8_placesOf_22 : decode cX8_placesOf 22 = .ok (.iload_n 2, 1) := by decide +kernel
theorem dX8_placesOf_23 : decode cX8_placesOf 23 = .ok (.if_icmp .ne 7, 3) := by decide +kernel
theorem dX8_placesOf_26 : decode cX8_placesOf 26 = .ok (.iconst 1, 1) := by decide +kernel
theorem dX8_placesOf_27 : decode cX8_placesOf 27 = .ok (.goto 4, 3) := by decide +kernel
theorem dX8_placesOf_30 : decode cX8_placesOf 30 = .ok (.iconst 0, 1) := by decide +kernel
theorem dX8_placesOf_31 : decode cX8_placesOf 31 = .ok (.iadd, 1) := by decide +kernel
theorem dX8_placesOf_32 : decode cX8_placesOf 32 = .ok (.istore_n 3, 1) := by decide +kernel
theorem dX8_placesOf_33 : decode cX8_placesOf 33 = .ok (.iinc 4 1, 3) := by decide +kernel
theorem dX8_placesOf_36 : decode cX8_placesOf 36 = .ok (.goto (-31), 3) := by decide +kernel
theorem dX8_placesOf_39 : decode cX8_placesOf 39 = .ok (.iload_n 3, 1) := by decide +kernel
theorem dX8_placesOf_40 : decode cX8_placesOf 40 = .ok (.ireturn, 1) := by decide +kernel
theorem dX8_isAhead_0 : decode cX8_isAhead 0 = .ok (.aload_n 0, 1) := by decide +kernel
theorem dX8_isAhead_1 : decode cX8_isAhead 1 = .ok (.iload_n 2, 1) := by decide +kernel
theorem dX8_isAhead_2 : decode cX8_isAhead 2 = .ok (.invokevirtual 72, 3) := by decide +kernel
theorem dX8_isAhead_5 : decode cX8_isAhead 5 = .ok (.aload_n 0, 1) := by decide +kernel
theorem dX8_isAhead_6 : decode cX8_isAhead 6 = .ok (.iload_n 1, 1) := by decide +kernel
theorem dX8_isAhead_7 : decode cX8_isAhead 7 = .ok (.invokevirtual 72, 3) := by decide +kernel
theorem dX8_isAhead_10 : decode cX8_isAhead 10 = .ok (.isub, 1) := by decide +kernel
theorem dX8_isAhead_11 : decode cX8_isAhead 11 = .ok (.istore_n 3, 1) := by decide +kernel
theorem dX8_isAhead_12 : decode cX8_isAhead 12 = .ok (.iconst 1, 1) := by decide +kernel
theorem dX8_isAhead_13 : decode cX8_isAhead 13 = .ok (.istore 4, 2) := by decide +kernel
theorem dX8_isAhead_15 : decode cX8_isAhead 15 = .ok (.iload 4, 2) := by decide +kernel
theorem dX8_isAhead_17 : decode cX8_isAhead 17 = .ok (.bipush 9, 2) := by decide +kernel
theorem dX8_isAhead_19 : decode cX8_isAhead 19 = .ok (.if_icmp .gt 29, 3) := by decide +kernel
theorem dX8_isAhead_22 : decode cX8_isAhead 22 = .ok (.iload_n 3, 1) := by decide +kernel
theorem dX8_isAhead_23 : decode cX8_isAhead 23 = .ok (.ifCond .ne 25, 3) := by decide +kernel
theorem dX8_isAhead_26 : decode cX8_isAhead 26 = .ok (.aload_n 0, 1) := by decide +kernel
theorem dX8_isAhead_27 : decode cX8_isAhead 27 = .ok (.iload_n 1, 1) := by decide +kernel
theorem dX8_isAhead_28 : decode cX8_isAhead 28 = .ok (.iload 4, 2) := by decide +kernel
theorem dX8_isAhead_30 : decode cX8_isAhead 30 = .ok (.invokevirtual 75, 3) := by decide +kernel
theorem dX8_isAhead_33 : decode cX8_isAhead 33 = .ok (.aload_n 0, 1) := by decide +kernel
theorem dX8_isAhead_34 : decode cX8_isAhead 34 = .ok (.iload_n 2, 1) := by decide +kernel
theorem dX8_isAhead_35 : decode cX8_isAhead 35 = .ok (.iload 4, 2) := by decide +kernel
theorem dX8_isAhead_37 : decode cX8_isAhead 37 = .ok (.invokevirtual 75, 3) := by decide +kernel
theorem dX8_isAhead_40 : decode cX8_isAhead 40 = .ok (.isub, 1) := by decide +kernel
theorem dX8_isAhead_41 : decode cX8_isAhead 41 = .ok (.istore_n 3, 1) := by decide +kernel
theorem dX8_isAhead_42 : decode cX8_isAhead 42 = .ok (.iinc 4 1, 3) := by decide +kernel
theorem dX8_isAhead_45 : decode cX8_isAhead 45 = .ok (.goto (-30), 3) := by decide +kernel
theorem dX8_isAhead_48 : decode cX8_isAhead 48 = .ok (.iload_n 3, 1) := by decide +kernel
theorem dX8_isAhead_49 : decode cX8_isAhead 49 = .ok (.ifCond .ne 34, 3) := by decide +kernel
theorem dX8_isAhead_52 : decode cX8_isAhead 52 = .ok (.aload_n 0, 1) := by decide +kernel
theorem dX8_isAhead_53 : decode cX8_isAhead 53 = .ok (.invokevirtual 59, 3) := by decide +kernel
theorem dX8_isAhead_56 : decode cX8_isAhead 56 = .ok (.ifCond .le 27, 3) := by decide +kernel
theorem dX8_isAhead_59 : decode cX8_isAhead 59 = .ok (.aload_n 0, 1) := by decide +kernel
theorem dX8_isAhead_60 : decode cX8_isAhead 60 = .ok (.aload_n 0, 1) := by decide +kernel
theorem dX8_isAhead_61 : decode cX8_isAhead 61 = .ok (.invokevirtual 59, 3) := by decide +kernel
theorem dX8_isAhead_64 : decode cX8_isAhead 64 = .ok (.iconst 1, 1) := by decide +kernel
theorem dX8_isAhead_65 : decode cX8_isAhead 65 = .ok (.isub, 1) := by decide +kernel
theorem dX8_isAhead_66 : decode cX8_isAhead 66 = .ok (.iload_n 2, 1) := by decide +kernel
theorem dX8_isAhead_67 : decode cX8_isAhead 67 = .ok (.invokevirtual 62, 3) := by decide +kernel
theorem dX8_isAhead_70 : decode cX8_isAhead 70 = .ok (.aload_n 0, 1) := by decide +kernel
theorem dX8_isAhead_71 : decode cX8_isAhead 71 = .ok (.aload_n 0, 1) := by decide +kernel
theorem dX8_isAhead_72 : decode cX8_isAhead 72 = .ok (.invokevirtual 59, 3) := by decide +kernel
theorem dX8_isAhead_75 : decode cX8_isAhead 75 = .ok (.iconst 1, 1) := by decide +kernel
theorem dX8_isAhead_76 : decode cX8_isAhead 76 = .ok (.isub, 1) := by decide +kernel
theorem dX8_isAhead_77 : decode cX8_isAhead 77 = .ok (.iload_n 1, 1) := by decide +kernel
theorem dX8_isAhead_78 : decode cX8_isAhead 78 = .ok (.invokevirtual 62, 3) := by decide +kernel
theorem dX8_isAhead_81 : decode cX8_isAhead 81 = .ok (.isub, 1) := by decide +kernel
theorem dX8_isAhead_82 : decode cX8_isAhead 82 = .ok (.istore_n 3, 1) := by decide +kernel
theorem dX8_isAhead_83 : decode cX8_isAhead 83 = .ok (.iload_n 3, 1) := by decide +kernel
theorem dX8_isAhead_84 : decode cX8_isAhead 84 = .ok (.ifCond .gt 12, 3) := by decide +kernel
theorem dX8_isAhead_87 : decode cX8_isAhead 87 = .ok (.iload_n 3, 1) := by decide +kernel
theorem dX8_isAhead_88 : decode cX8_isAhead 88 = .ok (.ifCond .ne 12, 3) := by decide +kernel
theorem dX8_isAhead_91 : decode cX8_isAhead 91 = .ok (.iload_n 1, 1) := by decide +kernel
theorem dX8_isAhead_92 : decode cX8_isAhead 92 = .ok (.iload_n 2, 1) := by decide +kernel
theorem dX8_isAhead_93 : decode cX8_isAhead 93 = .ok (.if_icmp .ge 7, 3) := by decide +kernel
theorem dX8_isAhead_96 : decode cX8_isAhead 96 = .ok (.iconst 1, 1) := by decide +kernel
theorem dX8_isAhead_97 : decode cX8_isAhead 97 = .ok (.goto 4, 3) := by decide +kernel
theorem dX8_isAhead_100 : decode cX8_isAhead 100 = .ok (.iconst 0, 1) := by decide +kernel
theorem dX8_isAhead_101 : decode cX8_isAhead 101 = .ok (.ireturn, 1) := by decide +kernel
theorem dX8_rank_0 : decode cX8_rank 0 = .ok (.iconst 1, 1) := by decide +kernel
theorem dX8_rank_1 : decode cX8_rank 1 = .ok (.istore_n 2, 1) := by decide +kernel
theorem dX8_rank_2 : decode cX8_rank 2 = .ok (.iconst 0, 1) := by decide +kernel
theorem dX8_rank_3 : decode cX8_rank 3 = .ok (.istore_n 3, 1) := by decide +kernel
theorem dX8_rank_4 : decode cX8_rank 4 = .ok (.iload_n 3, 1) := by decide +kernel
theorem dX8_rank_5 : decode cX8_rank 5 = .ok (.aload_n 0, 1) := by decide +kernel
theorem dX8_rank_6 : decode cX8_rank 6 = .ok (.getfield 7, 3) := by decide +kernel
theorem dX8_rank_9 : decode cX8_rank 9 = .ok (.iconst 1, 1) := by decide +kernel
theorem dX8_rank_10 : decode cX8_rank 10 = .ok (.iaload, 1) := by decide +kernel
theorem dX8_rank_11 : decode cX8_rank 11 = .ok (.if_icmp .ge 31, 3) := by decide +kernel
theorem dX8_rank_14 : decode cX8_rank 14 = .ok (.iload_n 2, 1) := by decide +kernel
theorem dX8_rank_15 : decode cX8_rank 15 = .ok (.iload_n 3, 1) := by decide +kernel
theorem dX8_rank_16 : decode cX8_rank 16 = .ok (.iload_n 1, 1) := by decide +kernel
theorem dX8_rank_17 : decode cX8_rank 17 = .ok (.if_icmp .eq 16, 3) := by decide +kernel
theorem dX8_rank_20 : decode cX8_rank 20 = .ok (.aload_n 0, 1) := by decide +kernel
theorem dX8_rank_21 : decode cX8_rank 21 = .ok (.iload_n 3, 1) := by decide +kernel
theorem dX8_rank_22 : decode cX8_rank 22 = .ok (.iload_n 1, 1) := by decide +kernel
theorem dX8_rank_23 : decode cX8_rank 23 = .ok (.invokevirtual 78, 3) := by decide +kernel
theorem dX8_rank_26 : decode cX8_rank 26 = .ok (.ifCond .eq 7, 3) := by decide +kernel
theorem dX8_rank_29 : decode cX8_rank 29 = .ok (.iconst 1, 1) := by decide +kernel
theorem dX8_rank_30 : decode cX8_rank 30 = .ok (.goto 4, 3) := by decide +kernel
theorem dX8_rank_33 : decode cX8_rank 33 = .ok (.iconst 0, 1) := by decide +kernel
theorem dX8_rank_34 : decode cX8_rank 34 = .ok (.iadd, 1) := by decide +kernel
theorem dX8_rank_35 : decode cX8_rank 35 = .ok (.istore_n 2, 1) := by decide +kernel
theorem dX8_rank_36 : decode cX8_rank 36 = .ok (.iinc 3 1, 3) := by decide +kernel
theorem dX8_rank_39 : decode cX8_rank 39 = .ok (.goto (-35), 3) := by decide +kernel
theorem dX8_rank_42 : decode cX8_rank 42 = .ok (.iload_n 2, 1) := by decide +kernel
theorem dX8_rank_43 : decode cX8_rank 43 = .ok (.ireturn, 1) := by decide +kernel
theorem dX8_finishedIn_0 : decode cX8_finishedIn 0 = .ok (.iconst 0, 1) := by decide +kernel
theorem dX8_finishedIn_1 : decode cX8_finishedIn 1 = .ok (.istore_n 2, 1) := by decide +kernel
theorem dX8_finishedIn_2 : decode cX8_finishedIn 2 = .ok (.iconst 0, 1) := by decide +kernel
theorem dX8_finishedIn_3 : decode cX8_finishedIn 3 = .ok (.istore_n 3, 1) := by decide +kernel
theorem dX8_finishedIn_4 : decode cX8_finishedIn 4 = .ok (.iload_n 3, 1) := by decide +kernel
theorem dX8_finishedIn_5 : decode cX8_finishedIn 5 = .ok (.aload_n 0, 1) := by decide +kernel
theorem dX8_finishedIn_6 : decode cX8_finishedIn 6 = .ok (.getfield 7, 3) := by decide +kernel
theorem dX8_finishedIn_9 : decode cX8_finishedIn 9 = .ok (.iconst 1, 1) := by decide +kernel
theorem dX8_finishedIn_10 : decode cX8_finishedIn 10 = .ok (.iaload, 1) := by decide +kernel
theorem dX8_finishedIn_11 : decode cX8_finishedIn 11 = .ok (.if_icmp .ge 28, 3) := by decide +kernel
theorem dX8_finishedIn_14 : decode cX8_finishedIn 14 = .ok (.iload_n 2, 1) := by decide +kernel
theorem dX8_finishedIn_15 : decode cX8_finishedIn 15 = .ok (.aload_n 0, 1) := by decide +kernel
theorem dX8_finishedIn_16 : decode cX8_finishedIn 16 = .ok (.iload_n 1, 1) := by decide +kernel
theorem dX8_finishedIn_17 : decode cX8_finishedIn 17 = .ok (.iload_n 3, 1) := by decide +kernel
theorem dX8_finishedIn_18 : decode cX8_finishedIn 18 = .ok (.iconst 0, 1) := by decide +kernel
theorem dX8_finishedIn_19 : decode cX8_finishedIn 19 = .ok (.invokevirtual 34, 3) := by decide +kernel
theorem dX8_finishedIn_22 : decode cX8_finishedIn 22 = .ok (.iconst 3, 1) := by decide +kernel
theorem dX8_finishedIn_23 : decode cX8_finishedIn 23 = .ok (.if_icmp .ne 7, 3) := by decide +kernel
theorem dX8_finishedIn_26 : decode cX8_finishedIn 26 = .ok (.iconst 1, 1) := by decide +kernel
theorem dX8_finishedIn_27 : decode cX8_finishedIn 27 = .ok (.goto 4, 3) := by decide +kernel
theorem dX8_finishedIn_30 : decode cX8_finishedIn 30 = .ok (.iconst 0, 1) := by decide +kernel
theorem dX8_finishedIn_31 : decode cX8_finishedIn 31 = .ok (.iadd, 1) := by decide +kernel
theorem dX8_finishedIn_32 : decode cX8_finishedIn 32 = .ok (.istore_n 2, 1) := by decide +kernel
theorem dX8_finishedIn_33 : decode cX8_finishedIn 33 = .ok (.iinc 3 1, 3) := by decide +kernel
theorem dX8_finishedIn_36 : decode cX8_finishedIn 36 = .ok (.goto (-32), 3) := by decide +kernel
theorem dX8_finishedIn_39 : decode cX8_finishedIn 39 = .ok (.iload_n 2, 1) := by decide +kernel
theorem dX8_finishedIn_40 : decode cX8_finishedIn 40 = .ok (.ireturn, 1) := by decide +kernel
theorem dX8_outIn_0 : decode cX8_outIn 0 = .ok (.iconst 0, 1) := by decide +kernel
theorem dX8_outIn_1 : decode cX8_outIn 1 = .ok (.istore_n 2, 1) := by decide +kernel
theorem dX8_outIn_2 : decode cX8_outIn 2 = .ok (.iconst 0, 1) := by decide +kernel
theorem dX8_outIn_3 : decode cX8_outIn 3 = .ok (.istore_n 3, 1) := by decide +kernel
theorem dX8_outIn_4 : decode cX8_outIn 4 = .ok (.iload_n 3, 1) := by decide +kernel
theorem dX8_outIn_5 : decode cX8_outIn 5 = .ok (.aload_n 0, 1) := by decide +kernel
theorem dX8_outIn_6 : decode cX8_outIn 6 = .ok (.getfield 7, 3) := by decide +kernel
theorem dX8_outIn_9 : decode cX8_outIn 9 = .ok (.iconst 1, 1) := by decide +kernel
theorem dX8_outIn_10 : decode cX8_outIn 10 = .ok (.iaload, 1) := by decide +kernel
theorem dX8_outIn_11 : decode cX8_outIn 11 = .ok (.if_icmp .ge 19, 3) := by decide +kernel
theorem dX8_outIn_14 : decode cX8_outIn 14 = .ok (.iload_n 2, 1) := by decide +kernel
theorem dX8_outIn_15 : decode cX8_outIn 15 = .ok (.aload_n 0, 1) := by decide +kernel
theorem dX8_outIn_16 : decode cX8_outIn 16 = .ok (.iload_n 1, 1) := by decide +kernel
theorem dX8_outIn_17 : decode cX8_outIn 17 = .ok (.iload_n 3, 1) := by decide +kernel
theorem dX8_outIn_18 : decode cX8_outIn 18 = .ok (.iconst 4, 1) := by decide +kernel
theorem dX8_outIn_19 : decode cX8_outIn 19 = .ok (.invokevirtual 34, 3) := by decide +kernel
theorem dX8_outIn_22 : decode cX8_outIn 22 = .ok (.iadd, 1) := by decide +kernel
theorem dX8_outIn_23 : decode cX8_outIn 23 = .ok (.istore_n 2, 1) := by decide +kernel
theorem dX8_outIn_24 : decode cX8_outIn 24 = .ok (.iinc 3 1, 3) := by decide +kernel
theorem dX8_outIn_27 : decode cX8_outIn 27 = .ok (.goto (-23), 3) := by decide +kernel
theorem dX8_outIn_30 : decode cX8_outIn 30 = .ok (.iload_n 2, 1) := by decide +kernel
theorem dX8_outIn_31 : decode cX8_outIn 31 = .ok (.ireturn, 1) := by decide +kernel
theorem dX8_bestIn_0 : decode cX8_bestIn 0 = .ok (.bipush (-5), 2) := by decide +kernel
theorem dX8_bestIn_2 : decode cX8_bestIn 2 = .ok (.istore_n 2, 1) := by decide +kernel
theorem dX8_bestIn_3 : decode cX8_bestIn 3 = .ok (.iconst 0, 1) := by decide +kernel
theorem dX8_bestIn_4 : decode cX8_bestIn 4 = .ok (.istore_n 3, 1) := by decide +kernel
theorem dX8_bestIn_5 : decode cX8_bestIn 5 = .ok (.iload_n 3, 1) := by decide +kernel
theorem dX8_bestIn_6 : decode cX8_bestIn 6 = .ok (.aload_n 0, 1) := by decide +kernel
theorem dX8_bestIn_7 : decode cX8_bestIn 7 = .ok (.getfield 7, 3) := by decide +kernel
theorem dX8_bestIn_10 : decode cX8_bestIn 10 = .ok (.iconst 1, 1) := by decide +kernel
theorem dX8_bestIn_11 : decode cX8_bestIn 11 = .ok (.iaload, 1) := by decide +kernel
theorem dX8_bestIn_12 : decode cX8_bestIn 12 = .ok (.if_icmp .ge 45, 3) := by decide +kernel
theorem dX8_bestIn_15 : decode cX8_bestIn 15 = .ok (.aload_n 0, 1) := by decide +kernel
theorem dX8_bestIn_16 : decode cX8_bestIn 16 = .ok (.iload_n 1, 1) := by decide +kernel
theorem dX8_bestIn_17 : decode cX8_bestIn 17 = .ok (.iload_n 3, 1) := by decide +kernel
theorem dX8_bestIn_18 : decode cX8_bestIn 18 = .ok (.invokevirtual 49, 3) := by decide +kernel
theorem dX8_bestIn_21 : decode cX8_bestIn 21 = .ok (.ifCond .eq 28, 3) := by decide +kernel
theorem dX8_bestIn_24 : decode cX8_bestIn 24 = .ok (.iload_n 2, 1) := by decide +kernel
theorem dX8_bestIn_25 : decode cX8_bestIn 25 = .ok (.bipush (-5), 2) := by decide +kernel
theorem dX8_bestIn_27 : decode cX8_bestIn 27 = .ok (.if_icmp .eq 18, 3) := by decide +kernel
theorem dX8_bestIn_30 : decode cX8_bestIn 30 = .ok (.aload_n 0, 1) := by decide +kernel
theorem dX8_bestIn_31 : decode cX8_bestIn 31 = .ok (.iload_n 1, 1) := by decide +kernel
theorem dX8_bestIn_32 : decode cX8_bestIn 32 = .ok (.iload_n 3, 1) := by decide +kernel
theorem dX8_bestIn_33 : decode cX8_bestIn 33 = .ok (.invokevirtual 53, 3) := by decide +kernel
theorem dX8_bestIn_36 : decode cX8_bestIn 36 = .ok (.aload_n 0, 1) := by decide +kernel
theorem dX8_bestIn_37 : decode cX8_bestIn 37 = .ok (.iload_n 1, 1) := by decide +kernel
theorem dX8_bestIn_38 : decode cX8_bestIn 38 = .ok (.iload_n 2, 1) := by decide +kernel
theorem dX8_bestIn_39 : decode cX8_bestIn 39 = .ok (.invokevirtual 53, 3) := by decide +kernel
theorem dX8_bestIn_42 : decode cX8_bestIn 42 = .ok (.if_icmp .ge 7, 3) := by decide +kernel
theorem dX8_bestIn_45 : decode cX8_bestIn 45 = .ok (.iload_n 3, 1) := by decide +kernel
theorem dX8_bestIn_46 : decode cX8_bestIn 46 = .ok (.goto 4, 3) := by decide +kernel
theorem dX8_bestIn_49 : decode cX8_bestIn 49 = .ok (.iload_n 2, 1) := by decide +kernel
theorem dX8_bestIn_50 : decode cX8_bestIn 50 = .ok (.istore_n 2, 1) := by decide +kernel
theorem dX8_bestIn_51 : decode cX8_bestIn 51 = .ok (.iinc 3 1, 3) := by decide +kernel
theorem dX8_bestIn_54 : decode cX8_bestIn 54 = .ok (.goto (-49), 3) := by decide +kernel
theorem dX8_bestIn_57 : decode cX8_bestIn 57 = .ok (.iload_n 2, 1) := by decide +kernel
theorem dX8_bestIn_58 : decode cX8_bestIn 58 = .ok (.ireturn, 1) := by decide +kernel
theorem dX8_enter_0 : decode cX8_enter 0 = .ok (.iload_n 1, 1) := by decide +kernel
theorem dX8_enter_1 : decode cX8_enter 1 = .ok (.bipush 50, 2) := by decide +kernel
theorem dX8_enter_3 : decode cX8_enter 3 = .ok (.sipush 150, 3) := by decide +kernel
theorem dX8_enter_6 : decode cX8_enter 6 = .ok (.invokestatic 22, 3) := by decide +kernel
theorem dX8_enter_9 : decode cX8_enter 9 = .ok (.ifCond .ne 6, 3) := by decide +kernel
theorem dX8_enter_12 : decode cX8_enter 12 = .ok (.bipush (-2), 2) := by decide +kernel
theorem dX8_enter_14 : decode cX8_enter 14 = .ok (.ireturn, 1) := by decide +kernel
theorem dX8_enter_15 : decode cX8_enter 15 = .ok (.aload_n 0, 1) := by decide +kernel
theorem dX8_enter_16 : decode cX8_enter 16 = .ok (.getfield 7, 3) := by decide +kernel
theorem dX8_enter_19 : decode cX8_enter 19 = .ok (.iconst 2, 1) := by decide +kernel
theorem dX8_enter_20 : decode cX8_enter 20 = .ok (.iaload, 1) := by decide +kernel
theorem dX8_enter_21 : decode cX8_enter 21 = .ok (.ifCond .le 6, 3) := by decide +kernel
theorem dX8_enter_24 : decode cX8_enter 24 = .ok (.bipush (-4), 2) := by decide +kernel
theorem dX8_enter_26 : decode cX8_enter 26 = .ok (.ireturn, 1) := by decide +kernel
theorem dX8_enter_27 : decode cX8_enter 27 = .ok (.aload_n 0, 1) := by decide +kernel
theorem dX8_enter_28 : decode cX8_enter 28 = .ok (.getfield 7, 3) := by decide +kernel
theorem dX8_enter_31 : decode cX8_enter 31 = .ok (.iconst 1, 1) := by decide +kernel
theorem dX8_enter_32 : decode cX8_enter 32 = .ok (.iaload, 1) := by decide +kernel
theorem dX8_enter_33 : decode cX8_enter 33 = .ok (.bipush 9, 2) := by decide +kernel
theorem dX8_enter_35 : decode cX8_enter 35 = .ok (.if_icmp .ne 6, 3) := by decide +kernel
theorem dX8_enter_38 : decode cX8_enter 38 = .ok (.bipush (-3), 2) := by decide +kernel
theorem dX8_enter_40 : decode cX8_enter 40 = .ok (.ireturn, 1) := by decide +kernel
theorem dX8_enter_41 : decode cX8_enter 41 = .ok (.aload_n 0, 1) := by decide +kernel
theorem dX8_enter_42 : decode cX8_enter 42 = .ok (.invokevirtual 81, 3) := by decide +kernel
theorem dX8_enter_45 : decode cX8_enter 45 = .ok (.aload_n 0, 1) := by decide +kernel
theorem dX8_enter_46 : decode cX8_enter 46 = .ok (.getfield 7, 3) := by decide +kernel
theorem dX8_enter_49 : decode cX8_enter 49 = .ok (.bipush 7, 2) := by decide +kernel
theorem dX8_enter_51 : decode cX8_enter 51 = .ok (.aload_n 0, 1) := by decide +kernel
theorem dX8_enter_52 : decode cX8_enter 52 = .ok (.getfield 7, 3) := by decide +kernel
theorem dX8_enter_55 : decode cX8_enter 55 = .ok (.iconst 1, 1) := by decide +kernel
theorem dX8_enter_56 : decode cX8_enter 56 = .ok (.iaload, 1) := by decide +kernel
theorem dX8_enter_57 : decode cX8_enter 57 = .ok (.iadd, 1) := by decide +kernel
theorem dX8_enter_58 : decode cX8_enter 58 = .ok (.iload_n 1, 1) := by decide +kernel
theorem dX8_enter_59 : decode cX8_enter 59 = .ok (.iastore, 1) := by decide +kernel
theorem dX8_enter_60 : decode cX8_enter 60 = .ok (.aload_n 0, 1) := by decide +kernel
theorem dX8_enter_61 : decode cX8_enter 61 = .ok (.getfield 7, 3) := by decide +kernel
theorem dX8_enter_64 : decode cX8_enter 64 = .ok (.iconst 1, 1) := by decide +kernel
theorem dX8_enter_65 : decode cX8_enter 65 = .ok (.dup2, 1) := by decide +kernel
theorem dX8_enter_66 : decode cX8_enter 66 = .ok (.iaload, 1) := by decide +kernel
theorem dX8_enter_67 : decode cX8_enter 67 = .ok (.iconst 1, 1) := by decide +kernel
theorem dX8_enter_68 : decode cX8_enter 68 = .ok (.iadd, 1) := by decide +kernel
theorem dX8_enter_69 : decode cX8_enter 69 = .ok (.iastore, 1) := by decide +kernel
theorem dX8_enter_70 : decode cX8_enter 70 = .ok (.aload_n 0, 1) := by decide +kernel
theorem dX8_enter_71 : decode cX8_enter 71 = .ok (.getfield 7, 3) := by decide +kernel
theorem dX8_enter_74 : decode cX8_enter 74 = .ok (.iconst 1, 1) := by decide +kernel
theorem dX8_enter_75 : decode cX8_enter 75 = .ok (.iaload, 1) := by decide +kernel
theorem dX8_enter_76 : decode cX8_enter 76 = .ok (.iconst 1, 1) := by decide +kernel
theorem dX8_enter_77 : decode cX8_enter 77 = .ok (.isub, 1) := by decide +kernel
theorem dX8_enter_78 : decode cX8_enter 78 = .ok (.ireturn, 1) := by decide +kernel
theorem dX8_clear_0 : decode cX8_clear 0 = .ok (.iconst 0, 1) := by decide +kernel
theorem dX8_clear_1 : decode cX8_clear 1 = .ok (.istore_n 1, 1) := by decide +kernel
theorem dX8_clear_2 : decode cX8_clear 2 = .ok (.iload_n 1, 1) := by decide +kernel
theorem dX8_clear_3 : decode cX8_clear 3 = .ok (.bipush 9, 2) := by decide +kernel
theorem dX8_clear_5 : decode cX8_clear 5 = .ok (.if_icmp .ge 34, 3) := by decide +kernel
theorem dX8_clear_8 : decode cX8_clear 8 = .ok (.iconst 0, 1) := by decide +kernel
theorem dX8_clear_9 : decode cX8_clear 9 = .ok (.istore_n 2, 1) := by decide +kernel
theorem dX8_clear_10 : decode cX8_clear 10 = .ok (.iload_n 2, 1) := by decide +kernel
theorem dX8_clear_11 : decode cX8_clear 11 = .ok (.bipush 6, 2) := by decide +kernel
theorem dX8_clear_13 : decode cX8_clear 13 = .ok (.if_icmp .ge 20, 3) := by decide +kernel
theorem dX8_clear_16 : decode cX8_clear 16 = .ok (.aload_n 0, 1) := by decide +kernel
theorem dX8_clear_17 : decode cX8_clear 17 = .ok (.aload_n 0, 1) := by decide +kernel
theorem dX8_clear_18 : decode cX8_clear 18 = .ok (.invokevirtual 26, 3) := by decide +kernel
theorem dX8_clear_21 : decode cX8_clear 21 = .ok (.iload_n 1, 1) := by decide +kernel
theorem dX8_clear_22 : decode cX8_clear 22 = .ok (.iload_n 2, 1) := by decide +kernel
theorem dX8_clear_23 : decode cX8_clear 23 = .ok (.iconst 0, 1) := by decide +kernel
theorem dX8_clear_24 : decode cX8_clear 24 = .ok (.invokevirtual 84, 3) := by decide +kernel
theorem dX8_clear_27 : decode cX8_clear 27 = .ok (.iinc 2 1, 3) := by decide +kernel
theorem dX8_clear_30 : decode cX8_clear 30 = .ok (.goto (-20), 3) := by decide +kernel
theorem dX8_clear_33 : decode cX8_clear 33 = .ok (.iinc 1 1, 3) := by decide +kernel
theorem dX8_clear_36 : decode cX8_clear 36 = .ok (.goto (-34), 3) := by decide +kernel
theorem dX8_clear_39 : decode cX8_clear 39 = .ok (.aload_n 0, 1) := by decide +kernel
theorem dX8_clear_40 : decode cX8_clear 40 = .ok (.getfield 7, 3) := by decide +kernel
theorem dX8_clear_43 : decode cX8_clear 43 = .ok (.iconst 3, 1) := by decide +kernel
theorem dX8_clear_44 : decode cX8_clear 44 = .ok (.iconst 0, 1) := by decide +kernel
theorem dX8_clear_45 : decode cX8_clear 45 = .ok (.iastore, 1) := by decide +kernel
theorem dX8_clear_46 : decode cX8_clear 46 = .ok (.return_, 1) := by decide +kernel
theorem dX8_prepare_0 : decode cX8_prepare 0 = .ok (.iload_n 1, 1) := by decide +kernel
theorem dX8_prepare_1 : decode cX8_prepare 1 = .ok (.iconst 1, 1) := by decide +kernel
theorem dX8_prepare_2 : decode cX8_prepare 2 = .ok (.iconst 5, 1) := by decide +kernel
theorem dX8_prepare_3 : decode cX8_prepare 3 = .ok (.invokestatic 22, 3) := by decide +kernel
theorem dX8_prepare_6 : decode cX8_prepare 6 = .ok (.ifCond .eq 24, 3) := by decide +kernel
theorem dX8_prepare_9 : decode cX8_prepare 9 = .ok (.iload_n 2, 1) := by decide +kernel
theorem dX8_prepare_10 : decode cX8_prepare 10 = .ok (.iconst 1, 1) := by decide +kernel
theorem dX8_prepare_11 : decode cX8_prepare 11 = .ok (.iconst 3, 1) := by decide +kernel
theorem dX8_prepare_12 : decode cX8_prepare 12 = .ok (.invokestatic 22, 3) := by decide +kernel
theorem dX8_prepare_15 : decode cX8_prepare 15 = .ok (.ifCond .eq 15, 3) := by decide +kernel
theorem dX8_prepare_18 : decode cX8_prepare 18 = .ok (.iload_n 3, 1) := by decide +kernel
theorem dX8_prepare_19 : decode cX8_prepare 19 = .ok (.bipush 60, 2) := by decide +kernel
theorem dX8_prepare_21 : decode cX8_prepare 21 = .ok (.sipush 3600, 3) := by decide +kernel
theorem dX8_prepare_24 : decode cX8_prepare 24 = .ok (.invokestatic 22, 3) := by decide +kernel
theorem dX8_prepare_27 : decode cX8_prepare 27 = .ok (.ifCond .ne 6, 3) := by decide +kernel
theorem dX8_prepare_30 : decode cX8_prepare 30 = .ok (.bipush (-2), 2) := by decide +kernel
theorem dX8_prepare_32 : decode cX8_prepare 32 = .ok (.ireturn, 1) := by decide +kernel
theorem dX8_prepare_33 : decode cX8_prepare 33 = .ok (.aload_n 0, 1) := by decide +kernel
theorem dX8_prepare_34 : decode cX8_prepare 34 = .ok (.getfield 7, 3) := by decide +kernel
theorem dX8_prepare_37 : decode cX8_prepare 37 = .ok (.iconst 1, 1) := by decide +kernel
theorem dX8_prepare_38 : decode cX8_prepare 38 = .ok (.iaload, 1) := by decide +kernel
theorem dX8_prepare_39 : decode cX8_prepare 39 = .ok (.ifCond .eq 10, 3) := by decide +kernel
theorem dX8_prepare_42 : decode cX8_prepare 42 = .ok (.aload_n 0, 1) := by decide +kernel
theorem dX8_prepare_43 : decode cX8_prepare 43 = .ok (.invokevirtual 88, 3) := by decide +kernel
theorem dX8_prepare_46 : decode cX8_prepare 46 = .ok (.ifCond .eq 6, 3) := by decide +kernel
theorem dX8_prepare_49 : decode cX8_prepare 49 = .ok (.bipush (-4), 2) := by decide +kernel
theorem dX8_prepare_51 : decode cX8_prepare 51 = .ok (.ireturn, 1) := by decide +kernel
theorem dX8_prepare_52 : decode cX8_prepare 52 = .ok (.aload_n 0, 1) := by decide +kernel
theorem dX8_prepare_53 : decode cX8_prepare 53 = .ok (.getfield 7, 3) := by decide +kernel
theorem dX8_prepare_56 : decode cX8_prepare 56 = .ok (.iconst 2, 1) := by decide +kernel
theorem dX8_prepare_57 : decode cX8_prepare 57 = .ok (.iaload, 1) := by decide +kernel
theorem dX8_prepare_58 : decode cX8_prepare 58 = .ok (.bipush 6, 2) := by decide +kernel
theorem dX8_prepare_60 : decode cX8_prepare 60 = .ok (.if_icmp .ne 6, 3) := by decide +kernel
theorem dX8_prepare_63 : decode cX8_prepare 63 = .ok (.bipush (-3), 2) := by decide +kernel
theorem dX8_prepare_65 : decode cX8_prepare 65 = .ok (.ireturn, 1) := by decide +kernel
theorem dX8_prepare_66 : decode cX8_prepare 66 = .ok (.aload_n 0, 1) := by decide +kernel
theorem dX8_prepare_67 : decode cX8_prepare 67 = .ok (.invokevirtual 81, 3) := by decide +kernel
theorem dX8_prepare_70 : decode cX8_prepare 70 = .ok (.bipush 16, 2) := by decide +kernel
theorem dX8_prepare_72 : decode cX8_prepare 72 = .ok (.iconst 4, 1) := by decide +kernel
theorem dX8_prepare_73 : decode cX8_prepare 73 = .ok (.aload_n 0, 1) := by decide +kernel
theorem dX8_prepare_74 : decode cX8_prepare 74 = .ok (.getfield 7, 3) := by decide +kernel
theorem dX8_prepare_77 : decode cX8_prepare 77 = .ok (.iconst 2, 1) := by decide +kernel
theorem dX8_prepare_78 : decode cX8_prepare 78 = .ok (.iaload, 1) := by decide +kernel
theorem dX8_prepare_79 : decode cX8_prepare 79 = .ok (.imul, 1) := by decide +kernel
theorem dX8_prepare_80 : decode cX8_prepare 80 = .ok (.iadd, 1) := by decide +kernel
theorem dX8_prepare_81 : decode cX8_prepare 81 = .ok (.istore 4, 2) := by decide +kernel
theorem dX8_prepare_83 : decode cX8_prepare 83 = .ok (.aload_n 0, 1) := by decide +kernel
theorem dX8_prepare_84 : decode cX8_prepare 84 = .ok (.getfield 7, 3) := by decide +kernel
theorem dX8_prepare_87 : decode cX8_prepare 87 = .ok (.iload 4, 2) := by decide +kernel
theorem dX8_prepare_89 : decode cX8_prepare 89 = .ok (.iconst 0, 1) := by decide +kernel
theorem dX8_prepare_90 : decode cX8_prepare 90 = .ok (.iadd, 1) := by decide +kernel
theorem dX8_prepare_91 : decode cX8_prepare 91 = .ok (.iload_n 1, 1) := by decide +kernel
theorem dX8_prepare_92 : decode cX8_prepare 92 = .ok (.iastore, 1) := by decide +kernel
theorem dX8_prepare_93 : decode cX8_prepare 93 = .ok (.aload_n 0, 1) := by decide +kernel
theorem dX8_prepare_94 : decode cX8_prepare 94 = .ok (.getfield 7, 3) := by decide +kernel
theorem dX8_prepare_97 : decode cX8_prepare 97 = .ok (.iload 4, 2) := by decide +kernel
theorem dX8_prepare_99 : decode cX8_prepare 99 = .ok (.iconst 1, 1) := by decide +kernel
theorem dX8_prepare_100 : decode cX8_prepare 100 = .ok (.iadd, 1) := by decide +kernel
theorem dX8_prepare_101 : decode cX8_prepare 101 = .ok (.iload_n 2, 1) := by decide +kernel
theorem dX8_prepare_102 : decode cX8_prepare 102 = .ok (.iastore, 1) := by decide +kernel
theorem dX8_prepare_103 : decode cX8_prepare 103 = .ok (.aload_n 0, 1) := by decide +kernel
theorem dX8_prepare_104 : decode cX8_prepare 104 = .ok (.getfield 7, 3) := by decide +kernel
theorem dX8_prepare_107 : decode cX8_prepare 107 = .ok (.iload 4, 2) := by decide +kernel
theorem dX8_prepare_109 : decode cX8_prepare 109 = .ok (.iconst 2, 1) := by decide +kernel
theorem dX8_prepare_110 : decode cX8_prepare 110 = .ok (.iadd, 1) := by decide +kernel
theorem dX8_prepare_111 : decode cX8_prepare 111 = .ok (.aload_n 0, 1) := by decide +kernel
theorem dX8_prepare_112 : decode cX8_prepare 112 = .ok (.getfield 7, 3) := by decide +kernel
theorem dX8_prepare_115 : decode cX8_prepare 115 = .ok (.iconst 0, 1) := by decide +kernel
theorem dX8_prepare_116 : decode cX8_prepare 116 = .ok (.iaload, 1) := by decide +kernel
theorem dX8_prepare_117 : decode cX8_prepare 117 = .ok (.iload_n 3, 1) := by decide +kernel
theorem dX8_prepare_118 : decode cX8_prepare 118 = .ok (.iadd, 1) := by decide +kernel
theorem dX8_prepare_119 : decode cX8_prepare 119 = .ok (.iastore, 1) := by decide +kernel
theorem dX8_prepare_120 : decode cX8_prepare 120 = .ok (.aload_n 0, 1) := by decide +kernel
theorem dX8_prepare_121 : decode cX8_prepare 121 = .ok (.getfield 7, 3) := by decide +kernel
theorem dX8_prepare_124 : decode cX8_prepare 124 = .ok (.iload 4, 2) := by decide +kernel
theorem dX8_prepare_126 : decode cX8_prepare 126 = .ok (.iconst 3, 1) := by decide +kernel
theorem dX8_prepare_127 : decode cX8_prepare 127 = .ok (.iadd, 1) := by decide +kernel
theorem dX8_prepare_128 : decode cX8_prepare 128 = .ok (.iconst 0, 1) := by decide +kernel
theorem dX8_prepare_129 : decode cX8_prepare 129 = .ok (.iastore, 1) := by decide +kernel
theorem dX8_prepare_130 : decode cX8_prepare 130 = .ok (.aload_n 0, 1) := by decide +kernel
theorem dX8_prepare_131 : decode cX8_prepare 131 = .ok (.getfield 7, 3) := by decide +kernel
theorem dX8_prepare_134 : decode cX8_prepare 134 = .ok (.iconst 2, 1) := by decide +kernel
theorem dX8_prepare_135 : decode cX8_prepare 135 = .ok (.dup2, 1) := by decide +kernel
theorem dX8_prepare_136 : decode cX8_prepare 136 = .ok (.iaload, 1) := by decide +kernel
theorem dX8_prepare_137 : decode cX8_prepare 137 = .ok (.iconst 1, 1) := by decide +kernel
theorem dX8_prepare_138 : decode cX8_prepare 138 = .ok (.iadd, 1) := by decide +kernel
theorem dX8_prepare_139 : decode cX8_prepare 139 = .ok (.iastore, 1) := by decide +kernel
theorem dX8_prepare_140 : decode cX8_prepare 140 = .ok (.aload_n 0, 1) := by decide +kernel
theorem dX8_prepare_141 : decode cX8_prepare 141 = .ok (.invokevirtual 92, 3) := by decide +kernel
theorem dX8_prepare_144 : decode cX8_prepare 144 = .ok (.aload_n 0, 1) := by decide +kernel
theorem dX8_prepare_145 : decode cX8_prepare 145 = .ok (.invokevirtual 26, 3) := by decide +kernel
theorem dX8_prepare_148 : decode cX8_prepare 148 = .ok (.ireturn, 1) := by decide +kernel
theorem dX8_postpone_0 : decode cX8_postpone 0 = .ok (.iload_n 1, 1) := by decide +kernel
theorem dX8_postpone_1 : decode cX8_postpone 1 = .ok (.iconst 1, 1) := by decide +kernel
theorem dX8_postpone_2 : decode cX8_postpone 2 = .ok (.sipush 3600, 3) := by decide +kernel
theorem dX8_postpone_5 : decode cX8_postpone 5 = .ok (.invokestatic 22, 3) := by decide +kernel
theorem dX8_postpone_8 : decode cX8_postpone 8 = .ok (.ifCond .ne 6, 3) := by decide +kernel
theorem dX8_postpone_11 : decode cX8_postpone 11 = .ok (.bipush (-2), 2) := by decide +kernel
theorem dX8_postpone_13 : decode cX8_postpone 13 = .ok (.ireturn, 1) := by decide +kernel
theorem dX8_postpone_14 : decode cX8_postpone 14 = .ok (.aload_n 0, 1) := by decide +kernel
theorem dX8_postpone_15 : decode cX8_postpone 15 = .ok (.invokevirtual 88, 3) := by decide +kernel
theorem dX8_postpone_18 : decode cX8_postpone 18 = .ok (.ifCond .eq 16, 3) := by decide +kernel
theorem dX8_postpone_21 : decode cX8_postpone 21 = .ok (.aload_n 0, 1) := by decide +kernel
theorem dX8_postpone_22 : decode cX8_postpone 22 = .ok (.getfield 7, 3) := by decide +kernel
theorem dX8_postpone_25 : decode cX8_postpone 25 = .ok (.iconst 0, 1) := by decide +kernel
theorem dX8_postpone_26 : decode cX8_postpone 26 = .ok (.iaload, 1) := by decide +kernel
theorem dX8_postpone_27 : decode cX8_postpone 27 = .ok (.aload_n 0, 1) := by decide +kernel
theorem dX8_postpone_28 : decode cX8_postpone 28 = .ok (.invokevirtual 95, 3) := by decide +kernel
theorem dX8_postpone_31 : decode cX8_postpone 31 = .ok (.if_icmp .lt 6, 3) := by decide +kernel
theorem dX8_postpone_34 : decode cX8_postpone 34 = .ok (.bipush (-4), 2) := by decide +kernel
theorem dX8_postpone_36 : decode cX8_postpone 36 = .ok (.ireturn, 1) := by decide +kernel
theorem dX8_postpone_37 : decode cX8_postpone 37 = .ok (.aload_n 0, 1) := by decide +kernel
theorem dX8_postpone_38 : decode cX8_postpone 38 = .ok (.invokevirtual 81, 3) := by decide +kernel
theorem dX8_postpone_41 : decode cX8_postpone 41 = .ok (.aload_n 0, 1) := by decide +kernel
theorem dX8_postpone_42 : decode cX8_postpone 42 = .ok (.getfield 7, 3) := by decide +kernel
theorem dX8_postpone_45 : decode cX8_postpone 45 = .ok (.bipush 16, 2) := by decide +kernel
theorem dX8_postpone_47 : decode cX8_postpone 47 = .ok (.iconst 4, 1) := by decide +kernel
theorem dX8_postpone_48 : decode cX8_postpone 48 = .ok (.aload_n 0, 1) := by decide +kernel
theorem dX8_postpone_49 : decode cX8_postpone 49 = .ok (.invokevirtual 26, 3) := by decide +kernel
theorem dX8_postpone_52 : decode cX8_postpone 52 = .ok (.imul, 1) := by decide +kernel
theorem dX8_postpone_53 : decode cX8_postpone 53 = .ok (.iadd, 1) := by decide +kernel
theorem dX8_postpone_54 : decode cX8_postpone 54 = .ok (.iconst 2, 1) := by decide +kernel
theorem dX8_postpone_55 : decode cX8_postpone 55 = .ok (.iadd, 1) := by decide +kernel
theorem dX8_postpone_56 : decode cX8_postpone 56 = .ok (.dup2, 1) := by decide +kernel
theorem dX8_postpone_57 : decode cX8_postpone 57 = .ok (.iaload, 1) := by decide +kernel
theorem dX8_postpone_58 : decode cX8_postpone 58 = .ok (.iload_n 1, 1) := by decide +kernel
theorem dX8_postpone_59 : decode cX8_postpone 59 = .ok (.iadd, 1) := by decide +kernel
theorem dX8_postpone_60 : decode cX8_postpone 60 = .ok (.iastore, 1) := by decide +kernel
theorem dX8_postpone_61 : decode cX8_postpone 61 = .ok (.aload_n 0, 1) := by decide +kernel
theorem dX8_postpone_62 : decode cX8_postpone 62 = .ok (.invokevirtual 95, 3) := by decide +kernel
theorem dX8_postpone_65 : decode cX8_postpone 65 = .ok (.ireturn, 1) := by decide +kernel
theorem dX8_recall_0 : decode cX8_recall 0 = .ok (.aload_n 0, 1) := by decide +kernel
theorem dX8_recall_1 : decode cX8_recall 1 = .ok (.invokevirtual 88, 3) := by decide +kernel
theorem dX8_recall_4 : decode cX8_recall 4 = .ok (.ifCond .eq 26, 3) := by decide +kernel
theorem dX8_recall_7 : decode cX8_recall 7 = .ok (.aload_n 0, 1) := by decide +kernel
theorem dX8_recall_8 : decode cX8_recall 8 = .ok (.getfield 7, 3) := by decide +kernel
theorem dX8_recall_11 : decode cX8_recall 11 = .ok (.iconst 0, 1) := by decide +kernel
theorem dX8_recall_12 : decode cX8_recall 12 = .ok (.iaload, 1) := by decide +kernel
theorem dX8_recall_13 : decode cX8_recall 13 = .ok (.aload_n 0, 1) := by decide +kernel
theorem dX8_recall_14 : decode cX8_recall 14 = .ok (.invokevirtual 95, 3) := by decide +kernel
theorem dX8_recall_17 : decode cX8_recall 17 = .ok (.aload_n 0, 1) := by decide +kernel
theorem dX8_recall_18 : decode cX8_recall 18 = .ok (.invokevirtual 95, 3) := by decide +kernel
theorem dX8_recall_21 : decode cX8_recall 21 = .ok (.bipush 60, 2) := by decide +kernel
theorem dX8_recall_23 : decode cX8_recall 23 = .ok (.iadd, 1) := by decide +kernel
theorem dX8_recall_24 : decode cX8_recall 24 = .ok (.invokestatic 22, 3) := by decide +kernel
theorem dX8_recall_27 : decode cX8_recall 27 = .ok (.ifCond .ne 6, 3) := by decide +kernel
theorem dX8_recall_30 : decode cX8_recall 30 = .ok (.bipush (-4), 2) := by decide +kernel
theorem dX8_recall_32 : decode cX8_recall 32 = .ok (.ireturn, 1) := by decide +kernel
theorem dX8_recall_33 : decode cX8_recall 33 = .ok (.aload_n 0, 1) := by decide +kernel
theorem dX8_recall_34 : decode cX8_recall 34 = .ok (.invokevirtual 81, 3) := by decide +kernel
theorem dX8_recall_37 : decode cX8_recall 37 = .ok (.aload_n 0, 1) := by decide +kernel
theorem dX8_recall_38 : decode cX8_recall 38 = .ok (.getfield 7, 3) := by decide +kernel
theorem dX8_recall_41 : decode cX8_recall 41 = .ok (.bipush 16, 2) := by decide +kernel
theorem dX8_recall_43 : decode cX8_recall 43 = .ok (.iconst 4, 1) := by decide +kernel
theorem dX8_recall_44 : decode cX8_recall 44 = .ok (.aload_n 0, 1) := by decide +kernel
theorem dX8_recall_45 : decode cX8_recall 45 = .ok (.invokevirtual 26, 3) := by decide +kernel
theorem dX8_recall_48 : decode cX8_recall 48 = .ok (.imul, 1) := by decide +kernel
theorem dX8_recall_49 : decode cX8_recall 49 = .ok (.iadd, 1) := by decide +kernel
theorem dX8_recall_50 : decode cX8_recall 50 = .ok (.iconst 2, 1) := by decide +kernel
theorem dX8_recall_51 : decode cX8_recall 51 = .ok (.iadd, 1) := by decide +kernel
theorem dX8_recall_52 : decode cX8_recall 52 = .ok (.aload_n 0, 1) := by decide +kernel
theorem dX8_recall_53 : decode cX8_recall 53 = .ok (.getfield 7, 3) := by decide +kernel
theorem dX8_recall_56 : decode cX8_recall 56 = .ok (.iconst 0, 1) := by decide +kernel
theorem dX8_recall_57 : decode cX8_recall 57 = .ok (.iaload, 1) := by decide +kernel
theorem dX8_recall_58 : decode cX8_recall 58 = .ok (.sipush 300, 3) := by decide +kernel
theorem dX8_recall_61 : decode cX8_recall 61 = .ok (.iadd, 1) := by decide +kernel
theorem dX8_recall_62 : decode cX8_recall 62 = .ok (.iastore, 1) := by decide +kernel
theorem dX8_recall_63 : decode cX8_recall 63 = .ok (.aload_n 0, 1) := by decide +kernel
theorem dX8_recall_64 : decode cX8_recall 64 = .ok (.invokevirtual 92, 3) := by decide +kernel
theorem dX8_recall_67 : decode cX8_recall 67 = .ok (.aload_n 0, 1) := by decide +kernel
theorem dX8_recall_68 : decode cX8_recall 68 = .ok (.invokevirtual 95, 3) := by decide +kernel
theorem dX8_recall_71 : decode cX8_recall 71 = .ok (.ireturn, 1) := by decide +kernel
theorem dX8_passError_0 : decode cX8_passError 0 = .ok (.iload_n 1, 1) := by decide +kernel
theorem dX8_passError_1 : decode cX8_passError 1 = .ok (.iconst 1, 1) := by decide +kernel
theorem dX8_passError_2 : decode cX8_passError 2 = .ok (.sipush 9999, 3) := by decide +kernel
theorem dX8_passError_5 : decode cX8_passError 5 = .ok (.invokestatic 22, 3) := by decide +kernel
theorem dX8_passError_8 : decode cX8_passError 8 = .ok (.ifCond .ne 8, 3) := by decide +kernel
theorem dX8_passError_11 : decode cX8_passError 11 = .ok (.bipush (-2), 2) := by decide +kernel
theorem dX8_passError_13 : decode cX8_passError 13 = .ok (.goto 22, 3) := by decide +kernel
theorem dX8_passError_16 : decode cX8_passError 16 = .ok (.aload_n 0, 1) := by decide +kernel
theorem dX8_passError_17 : decode cX8_passError 17 = .ok (.getfield 7, 3) := by decide +kernel
theorem dX8_passError_20 : decode cX8_passError 20 = .ok (.iconst 0, 1) := by decide +kernel
theorem dX8_passError_21 : decode cX8_passError 21 = .ok (.iaload, 1) := by decide +kernel
theorem dX8_passError_22 : decode cX8_passError 22 = .ok (.iload_n 1, 1) := by decide +kernel
theorem dX8_passError_23 : decode cX8_passError 23 = .ok (.iadd, 1) := by decide +kernel
theorem dX8_passError_24 : decode cX8_passError 24 = .ok (.ldc 98, 2) := by decide +kernel
theorem dX8_passError_26 : decode cX8_passError 26 = .ok (.if_icmp .le 8, 3) := by decide +kernel
theorem dX8_passError_29 : decode cX8_passError 29 = .ok (.bipush (-3), 2) := by decide +kernel
theorem dX8_passError_31 : decode cX8_passError 31 = .ok (.goto 4, 3) := by decide +kernel
theorem dX8_passError_34 : decode cX8_passError 34 = .ok (.iconst 0, 1) := by decide +kernel
theorem dX8_passError_35 : decode cX8_passError 35 = .ok (.ireturn, 1) := by decide +kernel
theorem dX8_doPass_0 : decode cX8_doPass 0 = .ok (.aload_n 0, 1) := by decide +kernel
theorem dX8_doPass_1 : decode cX8_doPass 1 = .ok (.getfield 7, 3) := by decide +kernel
theorem dX8_doPass_4 : decode cX8_doPass 4 = .ok (.iconst 0, 1) := by decide +kernel
theorem dX8_doPass_5 : decode cX8_doPass 5 = .ok (.dup2, 1) := by decide +kernel
theorem dX8_doPass_6 : decode cX8_doPass 6 = .ok (.iaload, 1) := by decide +kernel
theorem dX8_doPass_7 : decode cX8_doPass 7 = .ok (.iload_n 1, 1) := by decide +kernel
theorem dX8_doPass_8 : decode cX8_doPass 8 = .ok (.iadd, 1) := by decide +kernel
theorem dX8_doPass_9 : decode cX8_doPass 9 = .ok (.iastore, 1) := by decide +kernel
theorem dX8_doPass_10 : decode cX8_doPass 10 = .ok (.aload_n 0, 1) := by decide +kernel
theorem dX8_doPass_11 : decode cX8_doPass 11 = .ok (.getfield 7, 3) := by decide +kernel
theorem dX8_doPass_14 : decode cX8_doPass 14 = .ok (.iconst 0, 1) := by decide +kernel
theorem dX8_doPass_15 : decode cX8_doPass 15 = .ok (.iaload, 1) := by decide +kernel
theorem dX8_doPass_16 : decode cX8_doPass 16 = .ok (.ireturn, 1) := by decide +kernel
theorem dX8_pass_0 : decode cX8_pass 0 = .ok (.aload_n 0, 1) := by decide +kernel
theorem dX8_pass_1 : decode cX8_pass 1 = .ok (.iload_n 1, 1) := by decide +kernel
theorem dX8_pass_2 : decode cX8_pass 2 = .ok (.invokevirtual 99, 3) := by decide +kernel
theorem dX8_pass_5 : decode cX8_pass 5 = .ok (.istore_n 2, 1) := by decide +kernel
theorem dX8_pass_6 : decode cX8_pass 6 = .ok (.iload_n 2, 1) := by decide +kernel
theorem dX8_pass_7 : decode cX8_pass 7 = .ok (.ifCond .ge 5, 3) := by decide +kernel
theorem dX8_pass_10 : decode cX8_pass 10 = .ok (.iload_n 2, 1) := by decide +kernel
theorem dX8_pass_11 : decode cX8_pass 11 = .ok (.ireturn, 1) := by decide +kernel
theorem dX8_pass_12 : decode cX8_pass 12 = .ok (.aload_n 0, 1) := by decide +kernel
theorem dX8_pass_13 : decode cX8_pass 13 = .ok (.invokevirtual 81, 3) := by decide +kernel
theorem dX8_pass_16 : decode cX8_pass 16 = .ok (.aload_n 0, 1) := by decide +kernel
theorem dX8_pass_17 : decode cX8_pass 17 = .ok (.iload_n 1, 1) := by decide +kernel
theorem dX8_pass_18 : decode cX8_pass 18 = .ok (.invokevirtual 102, 3) := by decide +kernel
theorem dX8_pass_21 : decode cX8_pass 21 = .ok (.ireturn, 1) := by decide +kernel
theorem dX8_isWhole_0 : decode cX8_isWhole 0 = .ok (.aload_n 0, 1) := by decide +kernel
theorem dX8_isWhole_1 : decode cX8_isWhole 1 = .ok (.aload_n 0, 1) := by decide +kernel
theorem dX8_isWhole_2 : decode cX8_isWhole 2 = .ok (.invokevirtual 26, 3) := by decide +kernel
theorem dX8_isWhole_5 : decode cX8_isWhole 5 = .ok (.iload_n 1, 1) := by decide +kernel
theorem dX8_isWhole_6 : decode cX8_isWhole 6 = .ok (.iconst 1, 1) := by decide +kernel
theorem dX8_isWhole_7 : decode cX8_isWhole 7 = .ok (.invokevirtual 34, 3) := by decide +kernel
theorem dX8_isWhole_10 : decode cX8_isWhole 10 = .ok (.aload_n 0, 1) := by decide +kernel
theorem dX8_isWhole_11 : decode cX8_isWhole 11 = .ok (.aload_n 0, 1) := by decide +kernel
theorem dX8_isWhole_12 : decode cX8_isWhole 12 = .ok (.invokevirtual 26, 3) := by decide +kernel
theorem dX8_isWhole_15 : decode cX8_isWhole 15 = .ok (.iconst 0, 1) := by decide +kernel
theorem dX8_isWhole_16 : decode cX8_isWhole 16 = .ok (.invokevirtual 30, 3) := by decide +kernel
theorem dX8_isWhole_19 : decode cX8_isWhole 19 = .ok (.aload_n 0, 1) := by decide +kernel
theorem dX8_isWhole_20 : decode cX8_isWhole 20 = .ok (.aload_n 0, 1) := by decide +kernel
theorem dX8_isWhole_21 : decode cX8_isWhole 21 = .ok (.invokevirtual 26, 3) := by decide +kernel
theorem dX8_isWhole_24 : decode cX8_isWhole 24 = .ok (.iconst 1, 1) := by decide +kernel
theorem dX8_isWhole_25 : decode cX8_isWhole 25 = .ok (.invokevirtual 30, 3) := by decide +kernel
theorem dX8_isWhole_28 : decode cX8_isWhole 28 = .ok (.imul, 1) := by decide +kernel
theorem dX8_isWhole_29 : decode cX8_isWhole 29 = .ok (.if_icmp .ne 7, 3) := by decide +kernel
theorem dX8_isWhole_32 : decode cX8_isWhole 32 = .ok (.iconst 1, 1) := by decide +kernel
theorem dX8_isWhole_33 : decode cX8_isWhole 33 = .ok (.goto 4, 3) := by decide +kernel
theorem dX8_isWhole_36 : decode cX8_isWhole 36 = .ok (.iconst 0, 1) := by decide +kernel
theorem dX8_isWhole_37 : decode cX8_isWhole 37 = .ok (.ireturn, 1) := by decide +kernel
theorem dX8_lineError_0 : decode cX8_lineError 0 = .ok (.aload_n 0, 1) := by decide +kernel
theorem dX8_lineError_1 : decode cX8_lineError 1 = .ok (.iload_n 1, 1) := by decide +kernel
theorem dX8_lineError_2 : decode cX8_lineError 2 = .ok (.invokevirtual 105, 3) := by decide +kernel
theorem dX8_lineError_5 : decode cX8_lineError 5 = .ok (.ifCond .ne 5, 3) := by decide +kernel
theorem dX8_lineError_8 : decode cX8_lineError 8 = .ok (.iconst (-1), 1) := by decide +kernel
theorem dX8_lineError_9 : decode cX8_lineError 9 = .ok (.ireturn, 1) := by decide +kernel
theorem dX8_lineError_10 : decode cX8_lineError 10 = .ok (.aload_n 0, 1) := by decide +kernel
theorem dX8_lineError_11 : decode cX8_lineError 11 = .ok (.invokevirtual 88, 3) := by decide +kernel
theorem dX8_lineError_14 : decode cX8_lineError 14 = .ok (.ifCond .eq 33, 3) := by decide +kernel
theorem dX8_lineError_17 : decode cX8_lineError 17 = .ok (.aload_n 0, 1) := by decide +kernel
theorem dX8_lineError_18 : decode cX8_lineError 18 = .ok (.iload_n 1, 1) := by decide +kernel
theorem dX8_lineError_19 : decode cX8_lineError 19 = .ok (.invokevirtual 109, 3) := by decide +kernel
theorem dX8_lineError_22 : decode cX8_lineError 22 = .ok (.iconst 2, 1) := by decide +kernel
theorem dX8_lineError_23 : decode cX8_lineError 23 = .ok (.if_icmp .lt 20, 3) := by decide +kernel
theorem dX8_lineError_26 : decode cX8_lineError 26 = .ok (.aload_n 0, 1) := by decide +kernel
theorem dX8_lineError_27 : decode cX8_lineError 27 = .ok (.iload_n 1, 1) := by decide +kernel
theorem dX8_lineError_28 : decode cX8_lineError 28 = .ok (.invokevirtual 109, 3) := by decide +kernel
theorem dX8_lineError_31 : decode cX8_lineError 31 = .ok (.iconst 2, 1) := by decide +kernel
theorem dX8_lineError_32 : decode cX8_lineError 32 = .ok (.if_icmp .ne 15, 3) := by decide +kernel
theorem dX8_lineError_35 : decode cX8_lineError 35 = .ok (.aload_n 0, 1) := by decide +kernel
theorem dX8_lineError_36 : decode cX8_lineError 36 = .ok (.iload_n 1, 1) := by decide +kernel
theorem dX8_lineError_37 : decode cX8_lineError 37 = .ok (.invokevirtual 112, 3) := by decide +kernel
theorem dX8_lineError_40 : decode cX8_lineError 40 = .ok (.ifCond .eq 7, 3) := by decide +kernel
theorem dX8_lineError_43 : decode cX8_lineError 43 = .ok (.iconst 1, 1) := by decide +kernel
theorem dX8_lineError_44 : decode cX8_lineError 44 = .ok (.goto 4, 3) := by decide +kernel
theorem dX8_lineError_47 : decode cX8_lineError 47 = .ok (.iconst 0, 1) := by decide +kernel
theorem dX8_lineError_48 : decode cX8_lineError 48 = .ok (.istore_n 2, 1) := by decide +kernel
theorem dX8_lineError_49 : decode cX8_lineError 49 = .ok (.iload_n 2, 1) := by decide +kernel
theorem dX8_lineError_50 : decode cX8_lineError 50 = .ok (.ifCond .eq 7, 3) := by decide +kernel
theorem dX8_lineError_53 : decode cX8_lineError 53 = .ok (.iconst 0, 1) := by decide +kernel
theorem dX8_lineError_54 : decode cX8_lineError 54 = .ok (.goto 5, 3) := by decide +kernel
theorem dX8_lineError_57 : decode cX8_lineError 57 = .ok (.bipush (-4), 2) := by decide +kernel
theorem dX8_lineError_59 : decode cX8_lineError 59 = .ok (.ireturn, 1) := by decide +kernel
theorem dX8_doLine_0 : decode cX8_doLine 0 = .ok (.aload_n 0, 1) := by decide +kernel
theorem dX8_doLine_1 : decode cX8_doLine 1 = .ok (.iload_n 1, 1) := by decide +kernel
theorem dX8_doLine_2 : decode cX8_doLine 2 = .ok (.invokevirtual 109, 3) := by decide +kernel
theorem dX8_doLine_5 : decode cX8_doLine 5 = .ok (.istore_n 2, 1) := by decide +kernel
theorem dX8_doLine_6 : decode cX8_doLine 6 = .ok (.iload_n 2, 1) := by decide +kernel
theorem dX8_doLine_7 : decode cX8_doLine 7 = .ok (.iconst 2, 1) := by decide +kernel
theorem dX8_doLine_8 : decode cX8_doLine 8 = .ok (.if_icmp .ne 7, 3) := by decide +kernel
theorem dX8_doLine_11 : decode cX8_doLine 11 = .ok (.iconst 3, 1) := by decide +kernel
theorem dX8_doLine_12 : decode cX8_doLine 12 = .ok (.goto 29, 3) := by decide +kernel
theorem dX8_doLine_15 : decode cX8_doLine 15 = .ok (.aload_n 0, 1) := by decide +kernel
theorem dX8_doLine_16 : decode cX8_doLine 16 = .ok (.getfield 7, 3) := by decide +kernel
theorem dX8_doLine_19 : decode cX8_doLine 19 = .ok (.iconst 0, 1) := by decide +kernel
theorem dX8_doLine_20 : decode cX8_doLine 20 = .ok (.iaload, 1) := by decide +kernel
theorem dX8_doLine_21 : decode cX8_doLine 21 = .ok (.aload_n 0, 1) := by decide +kernel
theorem dX8_doLine_22 : decode cX8_doLine 22 = .ok (.invokevirtual 95, 3) := by decide +kernel
theorem dX8_doLine_25 : decode cX8_doLine 25 = .ok (.if_icmp .lt 7, 3) := by decide +kernel
theorem dX8_doLine_28 : decode cX8_doLine 28 = .ok (.iconst 2, 1) := by decide +kernel
theorem dX8_doLine_29 : decode cX8_doLine 29 = .ok (.goto 12, 3) := by decide +kernel
theorem dX8_doLine_32 : decode cX8_doLine 32 = .ok (.iload_n 2, 1) := by decide +kernel
theorem dX8_doLine_33 : decode cX8_doLine 33 = .ok (.ifCond .ne 7, 3) := by decide +kernel
theorem dX8_doLine_36 : decode cX8_doLine 36 = .ok (.iconst 1, 1) := by decide +kernel
theorem dX8_doLine_37 : decode cX8_doLine 37 = .ok (.goto 4, 3) := by decide +kernel
theorem dX8_doLine_40 : decode cX8_doLine 40 = .ok (.iconst 0, 1) := by decide +kernel
theorem dX8_doLine_41 : decode cX8_doLine 41 = .ok (.istore_n 3, 1) := by decide +kernel
theorem dX8_doLine_42 : decode cX8_doLine 42 = .ok (.aload_n 0, 1) := by decide +kernel
theorem dX8_doLine_43 : decode cX8_doLine 43 = .ok (.aload_n 0, 1) := by decide +kernel
theorem dX8_doLine_44 : decode cX8_doLine 44 = .ok (.invokevirtual 26, 3) := by decide +kernel
theorem dX8_doLine_47 : decode cX8_doLine 47 = .ok (.iload_n 1, 1) := by decide +kernel
theorem dX8_doLine_48 : decode cX8_doLine 48 = .ok (.iconst 0, 1) := by decide +kernel
theorem dX8_doLine_49 : decode cX8_doLine 49 = .ok (.iload_n 3, 1) := by decide +kernel
theorem dX8_doLine_50 : decode cX8_doLine 50 = .ok (.invokevirtual 84, 3) := by decide +kernel
theorem dX8_doLine_53 : decode cX8_doLine 53 = .ok (.aload_n 0, 1) := by decide +kernel
theorem dX8_doLine_54 : decode cX8_doLine 54 = .ok (.aload_n 0, 1) := by decide +kernel
theorem dX8_doLine_55 : decode cX8_doLine 55 = .ok (.invokevirtual 26, 3) := by decide +kernel
theorem dX8_doLine_58 : decode cX8_doLine 58 = .ok (.iload_n 1, 1) := by decide +kernel
theorem dX8_doLine_59 : decode cX8_doLine 59 = .ok (.iconst 5, 1) := by decide +kernel
theorem dX8_doLine_60 : decode cX8_doLine 60 = .ok (.iload_n 3, 1) := by decide +kernel
theorem dX8_doLine_61 : decode cX8_doLine 61 = .ok (.iconst 3, 1) := by decide +kernel
theorem dX8_doLine_62 : decode cX8_doLine 62 = .ok (.if_icmp .ne 12, 3) := by decide +kernel
theorem dX8_doLine_65 : decode cX8_doLine 65 = .ok (.aload_n 0, 1) := by decide +kernel
theorem dX8_doLine_66 : decode cX8_doLine 66 = .ok (.getfield 7, 3) := by decide +kernel
theorem dX8_doLine_69 : decode cX8_doLine 69 = .ok (.iconst 0, 1) := by decide +kernel
theorem dX8_doLine_70 : decode cX8_doLine 70 = .ok (.iaload, 1) := by decide +kernel
theorem dX8_doLine_71 : decode cX8_doLine 71 = .ok (.goto 4, 3) := by decide +kernel
theorem dX8_doLine_74 : decode cX8_doLine 74 = .ok (.iconst 0, 1) := by decide +kernel
theorem dX8_doLine_75 : decode cX8_doLine 75 = .ok (.invokevirtual 84, 3) := by decide +kernel
theorem dX8_doLine_78 : decode cX8_doLine 78 = .ok (.iload_n 3, 1) := by decide +kernel
theorem dX8_doLine_79 : decode cX8_doLine 79 = .ok (.ireturn, 1) := by decide +kernel
theorem dX8_buoyError_0 : decode cX8_buoyError 0 = .ok (.aload_n 0, 1) := by decide +kernel
theorem dX8_buoyError_1 : decode cX8_buoyError 1 = .ok (.iload_n 1, 1) := by decide +kernel
theorem dX8_buoyError_2 : decode cX8_buoyError 2 = .ok (.invokevirtual 105, 3) := by decide +kernel
theorem dX8_buoyError_5 : decode cX8_buoyError 5 = .ok (.ifCond .ne 5, 3) := by decide +kernel
theorem dX8_buoyError_8 : decode cX8_buoyError 8 = .ok (.iconst (-1), 1) := by decide +kernel
theorem dX8_buoyError_9 : decode cX8_buoyError 9 = .ok (.ireturn, 1) := by decide +kernel
theorem dX8_buoyError_10 : decode cX8_buoyError 10 = .ok (.aload_n 0, 1) := by decide +kernel
theorem dX8_buoyError_11 : decode cX8_buoyError 11 = .ok (.invokevirtual 88, 3) := by decide +kernel
theorem dX8_buoyError_14 : decode cX8_buoyError 14 = .ok (.ifCond .eq 22, 3) := by decide +kernel
theorem dX8_buoyError_17 : decode cX8_buoyError 17 = .ok (.iload_n 2, 1) := by decide +kernel
theorem dX8_buoyError_18 : decode cX8_buoyError 18 = .ok (.iconst 0, 1) := by decide +kernel
theorem dX8_buoyError_19 : decode cX8_buoyError 19 = .ok (.aload_n 0, 1) := by decide +kernel
theorem dX8_buoyError_20 : decode cX8_buoyError 20 = .ok (.aload_n 0, 1) := by decide +kernel
theorem dX8_buoyError_21 : decode cX8_buoyError 21 = .ok (.invokevirtual 26, 3) := by decide +kernel
theorem dX8_buoyError_24 : decode cX8_buoyError 24 = .ok (.iconst 0, 1) := by decide +kernel
theorem dX8_buoyError_25 : decode cX8_buoyError 25 = .ok (.invokevirtual 30, 3) := by decide +kernel
theorem dX8_buoyError_28 : decode cX8_buoyError 28 = .ok (.iconst 1, 1) := by decide +kernel
theorem dX8_buoyError_29 : decode cX8_buoyError 29 = .ok (.isub, 1) := by decide +kernel
theorem dX8_buoyError_30 : decode cX8_buoyError 30 = .ok (.invokestatic 22, 3) := by decide +kernel
theorem dX8_buoyError_33 : decode cX8_buoyError 33 = .ok (.ifCond .ne 6, 3) := by decide +kernel
theorem dX8_buoyError_36 : decode cX8_buoyError 36 = .ok (.bipush (-2), 2) := by decide +kernel
theorem dX8_buoyError_38 : decode cX8_buoyError 38 = .ok (.ireturn, 1) := by decide +kernel
theorem dX8_buoyError_39 : decode cX8_buoyError 39 = .ok (.aload_n 0, 1) := by decide +kernel
theorem dX8_buoyError_40 : decode cX8_buoyError 40 = .ok (.iload_n 1, 1) := by decide +kernel
theorem dX8_buoyError_41 : decode cX8_buoyError 41 = .ok (.invokevirtual 109, 3) := by decide +kernel
theorem dX8_buoyError_44 : decode cX8_buoyError 44 = .ok (.iconst 2, 1) := by decide +kernel
theorem dX8_buoyError_45 : decode cX8_buoyError 45 = .ok (.if_icmp .ne 7, 3) := by decide +kernel
theorem dX8_buoyError_48 : decode cX8_buoyError 48 = .ok (.iconst 0, 1) := by decide +kernel
theorem dX8_buoyError_49 : decode cX8_buoyError 49 = .ok (.goto 5, 3) := by decide +kernel
theorem dX8_buoyError_52 : decode cX8_buoyError 52 = .ok (.bipush (-4), 2) := by decide +kernel
theorem dX8_buoyError_54 : decode cX8_buoyError 54 = .ok (.ireturn, 1) := by decide +kernel
theorem dX8_doBuoy_0 : decode cX8_doBuoy 0 = .ok (.aload_n 0, 1) := by decide +kernel
theorem dX8_doBuoy_1 : decode cX8_doBuoy 1 = .ok (.aload_n 0, 1) := by decide +kernel
theorem dX8_doBuoy_2 : decode cX8_doBuoy 2 = .ok (.invokevirtual 26, 3) := by decide +kernel
theorem dX8_doBuoy_5 : decode cX8_doBuoy 5 = .ok (.iload_n 1, 1) := by decide +kernel
theorem dX8_doBuoy_6 : decode cX8_doBuoy 6 = .ok (.iconst 1, 1) := by decide +kernel
theorem dX8_doBuoy_7 : decode cX8_doBuoy 7 = .ok (.invokevirtual 34, 3) := by decide +kernel
theorem dX8_doBuoy_10 : decode cX8_doBuoy 10 = .ok (.istore_n 3, 1) := by decide +kernel
theorem dX8_doBuoy_11 : decode cX8_doBuoy 11 = .ok (.aload_n 0, 1) := by decide +kernel
theorem dX8_doBuoy_12 : decode cX8_doBuoy 12 = .ok (.iload_n 1, 1) := by decide +kernel
theorem dX8_doBuoy_13 : decode cX8_doBuoy 13 = .ok (.invokevirtual 112, 3) := by decide +kernel
theorem dX8_doBuoy_16 : decode cX8_doBuoy 16 = .ok (.ifCond .ne 35, 3) := by decide +kernel
theorem dX8_doBuoy_19 : decode cX8_doBuoy 19 = .ok (.iload_n 3, 1) := by decide +kernel
theorem dX8_doBuoy_20 : decode cX8_doBuoy 20 = .ok (.aload_n 0, 1) := by decide +kernel
theorem dX8_doBuoy_21 : decode cX8_doBuoy 21 = .ok (.aload_n 0, 1) := by decide +kernel
theorem dX8_doBuoy_22 : decode cX8_doBuoy 22 = .ok (.invokevirtual 26, 3) := by decide +kernel
theorem dX8_doBuoy_25 : decode cX8_doBuoy 25 = .ok (.iconst 0, 1) := by decide +kernel
theorem dX8_doBuoy_26 : decode cX8_doBuoy 26 = .ok (.invokevirtual 30, 3) := by decide +kernel
theorem dX8_doBuoy_29 : decode cX8_doBuoy 29 = .ok (.irem, 1) := by decide +kernel
theorem dX8_doBuoy_30 : decode cX8_doBuoy 30 = .ok (.iload_n 2, 1) := by decide +kernel
theorem dX8_doBuoy_31 : decode cX8_doBuoy 31 = .ok (.if_icmp .ne 20, 3) := by decide +kernel
theorem dX8_doBuoy_34 : decode cX8_doBuoy 34 = .ok (.aload_n 0, 1) := by decide +kernel
theorem dX8_doBuoy_35 : decode cX8_doBuoy 35 = .ok (.aload_n 0, 1) := by decide +kernel
theorem dX8_doBuoy_36 : decode cX8_doBuoy 36 = .ok (.invokevirtual 26, 3) := by decide +kernel
theorem dX8_doBuoy_39 : decode cX8_doBuoy 39 = .ok (.iload_n 1, 1) := by decide +kernel
theorem dX8_doBuoy_40 : decode cX8_doBuoy 40 = .ok (.iconst 1, 1) := by decide +kernel
theorem dX8_doBuoy_41 : decode cX8_doBuoy 41 = .ok (.iload_n 3, 1) := by decide +kernel
theorem dX8_doBuoy_42 : decode cX8_doBuoy 42 = .ok (.iconst 1, 1) := by decide +kernel
theorem dX8_doBuoy_43 : decode cX8_doBuoy 43 = .ok (.iadd, 1) := by decide +kernel
theorem dX8_doBuoy_44 : decode cX8_doBuoy 44 = .ok (.invokevirtual 84, 3) := by decide +kernel
theorem dX8_doBuoy_47 : decode cX8_doBuoy 47 = .ok (.iload_n 3, 1) := by decide +kernel
theorem dX8_doBuoy_48 : decode cX8_doBuoy 48 = .ok (.iconst 1, 1) := by decide +kernel
theorem dX8_doBuoy_49 : decode cX8_doBuoy 49 = .ok (.iadd, 1) := by decide +kernel
theorem dX8_doBuoy_50 : decode cX8_doBuoy 50 = .ok (.ireturn, 1) := by decide +kernel
theorem dX8_doBuoy_51 : decode cX8_doBuoy 51 = .ok (.aload_n 0, 1) := by decide +kernel
theorem dX8_doBuoy_52 : decode cX8_doBuoy 52 = .ok (.aload_n 0, 1) := by decide +kernel
theorem dX8_doBuoy_53 : decode cX8_doBuoy 53 = .ok (.invokevirtual 26, 3) := by decide +kernel
theorem dX8_doBuoy_56 : decode cX8_doBuoy 56 = .ok (.iload_n 1, 1) := by decide +kernel
theorem dX8_doBuoy_57 : decode cX8_doBuoy 57 = .ok (.iconst 2, 1) := by decide +kernel
theorem dX8_doBuoy_58 : decode cX8_doBuoy 58 = .ok (.aload_n 0, 1) := by decide +kernel
theorem dX8_doBuoy_59 : decode cX8_doBuoy 59 = .ok (.aload_n 0, 1) := by decide +kernel
theorem dX8_doBuoy_60 : decode cX8_doBuoy 60 = .ok (.invokevirtual 26, 3) := by decide +kernel
theorem dX8_doBuoy_63 : decode cX8_doBuoy 63 = .ok (.iload_n 1, 1) := by decide +kernel
theorem dX8_doBuoy_64 : decode cX8_doBuoy 64 = .ok (.iconst 2, 1) := by decide +kernel
theorem dX8_doBuoy_65 : decode cX8_doBuoy 65 = .ok (.invokevirtual 34, 3) := by decide +kernel
theorem dX8_doBuoy_68 : decode cX8_doBuoy 68 = .ok (.iconst 1, 1) := by decide +kernel
theorem dX8_doBuoy_69 : decode cX8_doBuoy 69 = .ok (.iadd, 1) := by decide +kernel
theorem dX8_doBuoy_70 : decode cX8_doBuoy 70 = .ok (.invokevirtual 84, 3) := by decide +kernel
theorem dX8_doBuoy_73 : decode cX8_doBuoy 73 = .ok (.iload_n 3, 1) := by decide +kernel
theorem dX8_doBuoy_74 : decode cX8_doBuoy 74 = .ok (.ireturn, 1) := by decide +kernel
theorem dX8_retireError_0 : decode cX8_retireError 0 = .ok (.aload_n 0, 1) := by decide +kernel
theorem dX8_retireError_1 : decode cX8_retireError 1 = .ok (.iload_n 1, 1) := by decide +kernel
theorem dX8_retireError_2 : decode cX8_retireError 2 = .ok (.invokevirtual 105, 3) := by decide +kernel
theorem dX8_retireError_5 : decode cX8_retireError 5 = .ok (.ifCond .ne 7, 3) := by decide +kernel
theorem dX8_retireError_8 : decode cX8_retireError 8 = .ok (.iconst (-1), 1) := by decide +kernel
theorem dX8_retireError_9 : decode cX8_retireError 9 = .ok (.goto 25, 3) := by decide +kernel
theorem dX8_retireError_12 : decode cX8_retireError 12 = .ok (.aload_n 0, 1) := by decide +kernel
theorem dX8_retireError_13 : decode cX8_retireError 13 = .ok (.invokevirtual 88, 3) := by decide +kernel
theorem dX8_retireError_16 : decode cX8_retireError 16 = .ok (.ifCond .eq 16, 3) := by decide +kernel
theorem dX8_retireError_19 : decode cX8_retireError 19 = .ok (.aload_n 0, 1) := by decide +kernel
theorem dX8_retireError_20 : decode cX8_retireError 20 = .ok (.iload_n 1, 1) := by decide +kernel
theorem dX8_retireError_21 : decode cX8_retireError 21 = .ok (.invokevirtual 109, 3) := by decide +kernel
theorem dX8_retireError_24 : decode cX8_retireError 24 = .ok (.iconst 3, 1) := by decide +kernel
theorem dX8_retireError_25 : decode cX8_retireError 25 = .ok (.if_icmp .ge 7, 3) := by decide +kernel
theorem dX8_retireError_28 : decode cX8_retireError 28 = .ok (.iconst 0, 1) := by decide +kernel
theorem dX8_retireError_29 : decode cX8_retireError 29 = .ok (.goto 5, 3) := by decide +kernel
theorem dX8_retireError_32 : decode cX8_retireError 32 = .ok (.bipush (-4), 2) := by decide +kernel
theorem dX8_retireError_34 : decode cX8_retireError 34 = .ok (.ireturn, 1) := by decide +kernel
theorem dX8_doRetire_0 : decode cX8_doRetire 0 = .ok (.aload_n 0, 1) := by decide +kernel
theorem dX8_doRetire_1 : decode cX8_doRetire 1 = .ok (.iload_n 1, 1) := by decide +kernel
theorem dX8_doRetire_2 : decode cX8_doRetire 2 = .ok (.invokevirtual 109, 3) := by decide +kernel
theorem dX8_doRetire_5 : decode cX8_doRetire 5 = .ok (.istore_n 2, 1) := by decide +kernel
theorem dX8_doRetire_6 : decode cX8_doRetire 6 = .ok (.aload_n 0, 1) := by decide +kernel
theorem dX8_doRetire_7 : decode cX8_doRetire 7 = .ok (.aload_n 0, 1) := by decide +kernel
theorem dX8_doRetire_8 : decode cX8_doRetire 8 = .ok (.invokevirtual 26, 3) := by decide +kernel
theorem dX8_doRetire_11 : decode cX8_doRetire 11 = .ok (.iload_n 1, 1) := by decide +kernel
theorem dX8_doRetire_12 : decode cX8_doRetire 12 = .ok (.iconst 0, 1) := by decide +kernel
theorem dX8_doRetire_13 : decode cX8_doRetire 13 = .ok (.iconst 4, 1) := by decide +kernel
theorem dX8_doRetire_14 : decode cX8_doRetire 14 = .ok (.invokevirtual 84, 3) := by decide +kernel
theorem dX8_doRetire_17 : decode cX8_doRetire 17 = .ok (.iload_n 2, 1) := by decide +kernel
theorem dX8_doRetire_18 : decode cX8_doRetire 18 = .ok (.ireturn, 1) := by decide +kernel
theorem dX8_line_0 : decode cX8_line 0 = .ok (.aload_n 0, 1) := by decide +kernel
theorem dX8_line_1 : decode cX8_line 1 = .ok (.iload_n 1, 1) := by decide +kernel
theorem dX8_line_2 : decode cX8_line 2 = .ok (.invokevirtual 115, 3) := by decide +kernel
theorem dX8_line_5 : decode cX8_line 5 = .ok (.istore_n 2, 1) := by decide +kernel
theorem dX8_line_6 : decode cX8_line 6 = .ok (.iload_n 2, 1) := by decide +kernel
theorem dX8_line_7 : decode cX8_line 7 = .ok (.ifCond .ge 5, 3) := by decide +kernel
theorem dX8_line_10 : decode cX8_line 10 = .ok (.iload_n 2, 1) := by decide +kernel
theorem dX8_line_11 : decode cX8_line 11 = .ok (.ireturn, 1) := by decide +kernel
theorem dX8_line_12 : decode cX8_line 12 = .ok (.aload_n 0, 1) := by decide +kernel
theorem dX8_line_13 : decode cX8_line 13 = .ok (.invokevirtual 81, 3) := by decide +kernel
theorem dX8_line_16 : decode cX8_line 16 = .ok (.aload_n 0, 1) := by decide +kernel
theorem dX8_line_17 : decode cX8_line 17 = .ok (.iload_n 1, 1) := by decide +kernel
theorem dX8_line_18 : decode cX8_line 18 = .ok (.invokevirtual 118, 3) := by decide +kernel
theorem dX8_line_21 : decode cX8_line 21 = .ok (.ireturn, 1) := by decide +kernel
theorem dX8_buoy_0 : decode cX8_buoy 0 = .ok (.aload_n 0, 1) := by decide +kernel
theorem dX8_buoy_1 : decode cX8_buoy 1 = .ok (.iload_n 1, 1) := by decide +kernel
theorem dX8_buoy_2 : decode cX8_buoy 2 = .ok (.iload_n 2, 1) := by decide +kernel
theorem dX8_buoy_3 : decode cX8_buoy 3 = .ok (.invokevirtual 121, 3) := by decide +kernel
theorem dX8_buoy_6 : decode cX8_buoy 6 = .ok (.istore_n 3, 1) := by decide +kernel
theorem dX8_buoy_7 : decode cX8_buoy 7 = .ok (.iload_n 3, 1) := by decide +kernel
theorem dX8_buoy_8 : decode cX8_buoy 8 = .ok (.ifCond .ge 5, 3) := by decide +kernel
theorem dX8_buoy_11 : decode cX8_buoy 11 = .ok (.iload_n 3, 1) := by decide +kernel
theorem dX8_buoy_12 : decode cX8_buoy 12 = .ok (.ireturn, 1) := by decide +kernel
theorem dX8_buoy_13 : decode cX8_buoy 13 = .ok (.aload_n 0, 1) := by decide +kernel
theorem dX8_buoy_14 : decode cX8_buoy 14 = .ok (.invokevirtual 81, 3) := by decide +kernel
theorem dX8_buoy_17 : decode cX8_buoy 17 = .ok (.aload_n 0, 1) := by decide +kernel
theorem dX8_buoy_18 : decode cX8_buoy 18 = .ok (.iload_n 1, 1) := by decide +kernel
theorem dX8_buoy_19 : decode cX8_buoy 19 = .ok (.iload_n 2, 1) := by decide +kernel
theorem dX8_buoy_20 : decode cX8_buoy 20 = .ok (.invokevirtual 124, 3) := by decide +kernel
theorem dX8_buoy_23 : decode cX8_buoy 23 = .ok (.ireturn, 1) := by decide +kernel
theorem dX8_retire_0 : decode cX8_retire 0 = .ok (.aload_n 0, 1) := by decide +kernel
theorem dX8_retire_1 : decode cX8_retire 1 = .ok (.iload_n 1, 1) := by decide +kernel
theorem dX8_retire_2 : decode cX8_retire 2 = .ok (.invokevirtual 127, 3) := by decide +kernel
theorem dX8_retire_5 : decode cX8_retire 5 = .ok (.istore_n 2, 1) := by decide +kernel
theorem dX8_retire_6 : decode cX8_retire 6 = .ok (.iload_n 2, 1) := by decide +kernel
theorem dX8_retire_7 : decode cX8_retire 7 = .ok (.ifCond .ge 5, 3) := by decide +kernel
theorem dX8_retire_10 : decode cX8_retire 10 = .ok (.iload_n 2, 1) := by decide +kernel
theorem dX8_retire_11 : decode cX8_retire 11 = .ok (.ireturn, 1) := by decide +kernel
theorem dX8_retire_12 : decode cX8_retire 12 = .ok (.aload_n 0, 1) := by decide +kernel
theorem dX8_retire_13 : decode cX8_retire 13 = .ok (.invokevirtual 81, 3) := by decide +kernel
theorem dX8_retire_16 : decode cX8_retire 16 = .ok (.aload_n 0, 1) := by decide +kernel
theorem dX8_retire_17 : decode cX8_retire 17 = .ok (.iload_n 1, 1) := by decide +kernel
theorem dX8_retire_18 : decode cX8_retire 18 = .ok (.invokevirtual 130, 3) := by decide +kernel
theorem dX8_retire_21 : decode cX8_retire 21 = .ok (.ireturn, 1) := by decide +kernel
theorem dX8_close_0 : decode cX8_close 0 = .ok (.aload_n 0, 1) := by decide +kernel
theorem dX8_close_1 : decode cX8_close 1 = .ok (.invokevirtual 88, 3) := by decide +kernel
theorem dX8_close_4 : decode cX8_close 4 = .ok (.ifCond .eq 16, 3) := by decide +kernel
theorem dX8_close_7 : decode cX8_close 7 = .ok (.aload_n 0, 1) := by decide +kernel
theorem dX8_close_8 : decode cX8_close 8 = .ok (.getfield 7, 3) := by decide +kernel
theorem dX8_close_11 : decode cX8_close 11 = .ok (.iconst 0, 1) := by decide +kernel
theorem dX8_close_12 : decode cX8_close 12 = .ok (.iaload, 1) := by decide +kernel
theorem dX8_close_13 : decode cX8_close 13 = .ok (.aload_n 0, 1) := by decide +kernel
theorem dX8_close_14 : decode cX8_close 14 = .ok (.invokevirtual 95, 3) := by decide +kernel
theorem dX8_close_17 : decode cX8_close 17 = .ok (.if_icmp .ge 6, 3) := by decide +kernel
theorem dX8_close_20 : decode cX8_close 20 = .ok (.bipush (-4), 2) := by decide +kernel
theorem dX8_close_22 : decode cX8_close 22 = .ok (.ireturn, 1) := by decide +kernel
theorem dX8_close_23 : decode cX8_close 23 = .ok (.aload_n 0, 1) := by decide +kernel
theorem dX8_close_24 : decode cX8_close 24 = .ok (.invokevirtual 81, 3) := by decide +kernel
theorem dX8_close_27 : decode cX8_close 27 = .ok (.aload_n 0, 1) := by decide +kernel
theorem dX8_close_28 : decode cX8_close 28 = .ok (.getfield 7, 3) := by decide +kernel
theorem dX8_close_31 : decode cX8_close 31 = .ok (.bipush 16, 2) := by decide +kernel
theorem dX8_close_33 : decode cX8_close 33 = .ok (.iconst 4, 1) := by decide +kernel
theorem dX8_close_34 : decode cX8_close 34 = .ok (.aload_n 0, 1) := by decide +kernel
theorem dX8_close_35 : decode cX8_close 35 = .ok (.invokevirtual 26, 3) := by decide +kernel
theorem dX8_close_38 : decode cX8_close 38 = .ok (.imul, 1) := by decide +kernel
theorem dX8_close_39 : decode cX8_close 39 = .ok (.iadd, 1) := by decide +kernel
theorem dX8_close_40 : decode cX8_close 40 = .ok (.iconst 3, 1) := by decide +kernel
theorem dX8_close_41 : decode cX8_close 41 = .ok (.iadd, 1) := by decide +kernel
theorem dX8_close_42 : decode cX8_close 42 = .ok (.iconst 1, 1) := by decide +kernel
theorem dX8_close_43 : decode cX8_close 43 = .ok (.iastore, 1) := by decide +kernel
theorem dX8_close_44 : decode cX8_close 44 = .ok (.aload_n 0, 1) := by decide +kernel
theorem dX8_close_45 : decode cX8_close 45 = .ok (.aload_n 0, 1) := by decide +kernel
theorem dX8_close_46 : decode cX8_close 46 = .ok (.invokevirtual 26, 3) := by decide +kernel
theorem dX8_close_49 : decode cX8_close 49 = .ok (.invokevirtual 133, 3) := by decide +kernel
theorem dX8_close_52 : decode cX8_close 52 = .ok (.ireturn, 1) := by decide +kernel
theorem dX8_isOnWater_0 : decode cX8_isOnWater 0 = .ok (.aload_n 0, 1) := by decide +kernel
theorem dX8_isOnWater_1 : decode cX8_isOnWater 1 = .ok (.iload_n 1, 1) := by decide +kernel
theorem dX8_isOnWater_2 : decode cX8_isOnWater 2 = .ok (.invokevirtual 109, 3) := by decide +kernel
theorem dX8_isOnWater_5 : decode cX8_isOnWater 5 = .ok (.iconst 2, 1) := by decide +kernel
theorem dX8_isOnWater_6 : decode cX8_isOnWater 6 = .ok (.iconst 3, 1) := by decide +kernel
theorem dX8_isOnWater_7 : decode cX8_isOnWater 7 = .ok (.invokestatic 22, 3) := by decide +kernel
theorem dX8_isOnWater_10 : decode cX8_isOnWater 10 = .ok (.ireturn, 1) := by decide +kernel
theorem dX8_hailError_0 : decode cX8_hailError 0 = .ok (.aload_n 0, 1) := by decide +kernel
theorem dX8_hailError_1 : decode cX8_hailError 1 = .ok (.iload_n 1, 1) := by decide +kernel
theorem dX8_hailError_2 : decode cX8_hailError 2 = .ok (.invokevirtual 105, 3) := by decide +kernel
theorem dX8_hailError_5 : decode cX8_hailError 5 = .ok (.ifCond .eq 11, 3) := by decide +kernel
theorem dX8_hailError_8 : decode cX8_hailError 8 = .ok (.aload_n 0, 1) := by decide +kernel
theorem dX8_hailError_9 : decode cX8_hailError 9 = .ok (.iload_n 2, 1) := by decide +kernel
theorem dX8_hailError_10 : decode cX8_hailError 10 = .ok (.invokevirtual 105, 3) := by decide +kernel
theorem dX8_hailError_13 : decode cX8_hailError 13 = .ok (.ifCond .ne 5, 3) := by decide +kernel
theorem dX8_hailError_16 : decode cX8_hailError 16 = .ok (.iconst (-1), 1) := by decide +kernel
theorem dX8_hailError_17 : decode cX8_hailError 17 = .ok (.ireturn, 1) := by decide +kernel
theorem dX8_hailError_18 : decode cX8_hailError 18 = .ok (.iload_n 1, 1) := by decide +kernel
theorem dX8_hailError_19 : decode cX8_hailError 19 = .ok (.iload_n 2, 1) := by decide +kernel
theorem dX8_hailError_20 : decode cX8_hailError 20 = .ok (.if_icmp .ne 6, 3) := by decide +kernel
theorem dX8_hailError_23 : decode cX8_hailError 23 = .ok (.bipush (-2), 2) := by decide +kernel
theorem dX8_hailError_25 : decode cX8_hailError 25 = .ok (.ireturn, 1) := by decide +kernel
theorem dX8_hailError_26 : decode cX8_hailError 26 = .ok (.aload_n 0, 1) := by decide +kernel
theorem dX8_hailError_27 : decode cX8_hailError 27 = .ok (.invokevirtual 88, 3) := by decide +kernel
theorem dX8_hailError_30 : decode cX8_hailError 30 = .ok (.ifCond .eq 19, 3) := by decide +kernel
theorem dX8_hailError_33 : decode cX8_hailError 33 = .ok (.aload_n 0, 1) := by decide +kernel
theorem dX8_hailError_34 : decode cX8_hailError 34 = .ok (.iload_n 1, 1) := by decide +kernel
theorem dX8_hailError_35 : decode cX8_hailError 35 = .ok (.invokevirtual 136, 3) := by decide +kernel
theorem dX8_hailError_38 : decode cX8_hailError 38 = .ok (.ifCond .eq 11, 3) := by decide +kernel
theorem dX8_hailError_41 : decode cX8_hailError 41 = .ok (.aload_n 0, 1) := by decide +kernel
theorem dX8_hailError_42 : decode cX8_hailError 42 = .ok (.iload_n 2, 1) := by decide +kernel
theorem dX8_hailError_43 : decode cX8_hailError 43 = .ok (.invokevirtual 136, 3) := by decide +kernel
theorem dX8_hailError_46 : decode cX8_hailError 46 = .ok (.ifCond .ne 6, 3) := by decide +kernel
theorem dX8_hailError_49 : decode cX8_hailError 49 = .ok (.bipush (-4), 2) := by decide +kernel
theorem dX8_hailError_51 : decode cX8_hailError 51 = .ok (.ireturn, 1) := by decide +kernel
theorem dX8_hailError_52 : decode cX8_hailError 52 = .ok (.aload_n 0, 1) := by decide +kernel
theorem dX8_hailError_53 : decode cX8_hailError 53 = .ok (.getfield 7, 3) := by decide +kernel
theorem dX8_hailError_56 : decode cX8_hailError 56 = .ok (.iconst 3, 1) := by decide +kernel
theorem dX8_hailError_57 : decode cX8_hailError 57 = .ok (.iaload, 1) := by decide +kernel
theorem dX8_hailError_58 : decode cX8_hailError 58 = .ok (.bipush 10, 2) := by decide +kernel
theorem dX8_hailError_60 : decode cX8_hailError 60 = .ok (.if_icmp .ne 8, 3) := by decide +kernel
theorem dX8_hailError_63 : decode cX8_hailError 63 = .ok (.bipush (-3), 2) := by decide +kernel
theorem dX8_hailError_65 : decode cX8_hailError 65 = .ok (.goto 4, 3) := by decide +kernel
theorem dX8_hailError_68 : decode cX8_hailError 68 = .ok (.iconst 0, 1) := by decide +kernel
theorem dX8_hailError_69 : decode cX8_hailError 69 = .ok (.ireturn, 1) := by decide +kernel
theorem dX8_doHail_0 : decode cX8_doHail 0 = .ok (.bipush 40, 2) := by decide +kernel
theorem dX8_doHail_2 : decode cX8_doHail 2 = .ok (.iconst 4, 1) := by decide +kernel
theorem dX8_doHail_3 : decode cX8_doHail 3 = .ok (.aload_n 0, 1) := by decide +kernel
theorem dX8_doHail_4 : decode cX8_doHail 4 = .ok (.getfield 7, 3) := by decide +kernel
theorem dX8_doHail_7 : decode cX8_doHail 7 = .ok (.iconst 3, 1) := by decide +kernel
theorem dX8_doHail_8 : decode cX8_doHail 8 = .ok (.iaload, 1) := by decide +kernel
theorem dX8_doHail_9 : decode cX8_doHail 9 = .ok (.imul, 1) := by decide +kernel
theorem dX8_doHail_10 : decode cX8_doHail 10 = .ok (.iadd, 1) := by decide +kernel
theorem dX8_doHail_11 : decode cX8_doHail 11 = .ok (.istore_n 3, 1) := by decide +kernel
theorem dX8_doHail_12 : decode cX8_doHail 12 = .ok (.aload_n 0, 1) := by decide +kernel
theorem dX8_doHail_13 : decode cX8_doHail 13 = .ok (.getfield 7, 3) := by decide +kernel
theorem dX8_doHail_16 : decode cX8_doHail 16 = .ok (.iload_n 3, 1) := by decide +kernel
theorem dX8_doHail_17 : decode cX8_doHail 17 = .ok (.iconst 0, 1) := by decide +kernel
theorem dX8_doHail_18 : decode cX8_doHail 18 = .ok (.iadd, 1) := by decide +kernel
theorem dX8_doHail_19 : decode cX8_doHail 19 = .ok (.iload_n 1, 1) := by decide +kernel
theorem dX8_doHail_20 : decode cX8_doHail 20 = .ok (.iastore, 1) := by decide +kernel
theorem dX8_doHail_21 : decode cX8_doHail 21 = .ok (.aload_n 0, 1) := by decide +kernel
theorem dX8_doHail_22 : decode cX8_doHail 22 = .ok (.getfield 7, 3) := by decide +kernel
theorem dX8_doHail_25 : decode cX8_doHail 25 = .ok (.iload_n 3, 1) := by decide +kernel
theorem dX8_doHail_26 : decode cX8_doHail 26 = .ok (.iconst 1, 1) := by decide +kernel
theorem dX8_doHail_27 : decode cX8_doHail 27 = .ok (.iadd, 1) := by decide +kernel
theorem dX8_doHail_28 : decode cX8_doHail 28 = .ok (.iload_n 2, 1) := by decide +kernel
theorem dX8_doHail_29 : decode cX8_doHail 29 = .ok (.iastore, 1) := by decide +kernel
theorem dX8_doHail_30 : decode cX8_doHail 30 = .ok (.aload_n 0, 1) := by decide +kernel
theorem dX8_doHail_31 : decode cX8_doHail 31 = .ok (.getfield 7, 3) := by decide +kernel
theorem dX8_doHail_34 : decode cX8_doHail 34 = .ok (.iload_n 3, 1) := by decide +kernel
theorem dX8_doHail_35 : decode cX8_doHail 35 = .ok (.iconst 2, 1) := by decide +kernel
theorem dX8_doHail_36 : decode cX8_doHail 36 = .ok (.iadd, 1) := by decide +kernel
theorem dX8_doHail_37 : decode cX8_doHail 37 = .ok (.aload_n 0, 1) := by decide +kernel
theorem dX8_doHail_38 : decode cX8_doHail 38 = .ok (.getfield 7, 3) := by decide +kernel
theorem dX8_doHail_41 : decode cX8_doHail 41 = .ok (.iconst 0, 1) := by decide +kernel
theorem dX8_doHail_42 : decode cX8_doHail 42 = .ok (.iaload, 1) := by decide +kernel
theorem dX8_doHail_43 : decode cX8_doHail 43 = .ok (.iastore, 1) := by decide +kernel
theorem dX8_doHail_44 : decode cX8_doHail 44 = .ok (.aload_n 0, 1) := by decide +kernel
theorem dX8_doHail_45 : decode cX8_doHail 45 = .ok (.getfield 7, 3) := by decide +kernel
theorem dX8_doHail_48 : decode cX8_doHail 48 = .ok (.iload_n 3, 1) := by decide +kernel
theorem dX8_doHail_49 : decode cX8_doHail 49 = .ok (.iconst 3, 1) := by decide +kernel
theorem dX8_doHail_50 : decode cX8_doHail 50 = .ok (.iadd, 1) := by decide +kernel
theorem dX8_doHail_51 : decode cX8_doHail 51 = .ok (.iconst 0, 1) := by decide +kernel
theorem dX8_doHail_52 : decode cX8_doHail 52 = .ok (.iastore, 1) := by decide +kernel
theorem dX8_doHail_53 : decode cX8_doHail 53 = .ok (.aload_n 0, 1) := by decide +kernel
theorem dX8_doHail_54 : decode cX8_doHail 54 = .ok (.getfield 7, 3) := by decide +kernel
theorem dX8_doHail_57 : decode cX8_doHail 57 = .ok (.iconst 3, 1) := by decide +kernel
theorem dX8_doHail_58 : decode cX8_doHail 58 = .ok (.dup2, 1) := by decide +kernel
theorem dX8_doHail_59 : decode cX8_doHail 59 = .ok (.iaload, 1) := by decide +kernel
theorem dX8_doHail_60 : decode cX8_doHail 60 = .ok (.iconst 1, 1) := by decide +kernel
theorem dX8_doHail_61 : decode cX8_doHail 61 = .ok (.iadd, 1) := by decide +kernel
theorem dX8_doHail_62 : decode cX8_doHail 62 = .ok (.iastore, 1) := by decide +kernel
theorem dX8_doHail_63 : decode cX8_doHail 63 = .ok (.aload_n 0, 1) := by decide +kernel
theorem dX8_doHail_64 : decode cX8_doHail 64 = .ok (.getfield 7, 3) := by decide +kernel
theorem dX8_doHail_67 : decode cX8_doHail 67 = .ok (.iconst 3, 1) := by decide +kernel
theorem dX8_doHail_68 : decode cX8_doHail 68 = .ok (.iaload, 1) := by decide +kernel
theorem dX8_doHail_69 : decode cX8_doHail 69 = .ok (.iconst 1, 1) := by decide +kernel
theorem dX8_doHail_70 : decode cX8_doHail 70 = .ok (.isub, 1) := by decide +kernel
theorem dX8_doHail_71 : decode cX8_doHail 71 = .ok (.ireturn, 1) := by decide +kernel
theorem dX8_hail_0 : decode cX8_hail 0 = .ok (.aload_n 0, 1) := by decide +kernel
theorem dX8_hail_1 : decode cX8_hail 1 = .ok (.iload_n 1, 1) := by decide +kernel
theorem dX8_hail_2 : decode cX8_hail 2 = .ok (.iload_n 2, 1) := by decide +kernel
theorem dX8_hail_3 : decode cX8_hail 3 = .ok (.invokevirtual 139, 3) := by decide +kernel
theorem dX8_hail_6 : decode cX8_hail 6 = .ok (.istore_n 3, 1) := by decide +kernel
theorem dX8_hail_7 : decode cX8_hail 7 = .ok (.iload_n 3, 1) := by decide +kernel
theorem dX8_hail_8 : decode cX8_hail 8 = .ok (.ifCond .ge 5, 3) := by decide +kernel
theorem dX8_hail_11 : decode cX8_hail 11 = .ok (.iload_n 3, 1) := by decide +kernel
theorem dX8_hail_12 : decode cX8_hail 12 = .ok (.ireturn, 1) := by decide +kernel
theorem dX8_hail_13 : decode cX8_hail 13 = .ok (.aload_n 0, 1) := by decide +kernel
theorem dX8_hail_14 : decode cX8_hail 14 = .ok (.invokevirtual 81, 3) := by decide +kernel
theorem dX8_hail_17 : decode cX8_hail 17 = .ok (.aload_n 0, 1) := by decide +kernel
theorem dX8_hail_18 : decode cX8_hail 18 = .ok (.iload_n 1, 1) := by decide +kernel
theorem dX8_hail_19 : decode cX8_hail 19 = .ok (.iload_n 2, 1) := by decide +kernel
theorem dX8_hail_20 : decode cX8_hail 20 = .ok (.invokevirtual 142, 3) := by decide +kernel
theorem dX8_hail_23 : decode cX8_hail 23 = .ok (.ireturn, 1) := by decide +kernel
theorem dX8_stage_0 : decode cX8_stage 0 = .ok (.aload_n 0, 1) := by decide +kernel
theorem dX8_stage_1 : decode cX8_stage 1 = .ok (.getfield 7, 3) := by decide +kernel
theorem dX8_stage_4 : decode cX8_stage 4 = .ok (.bipush 40, 2) := by decide +kernel
theorem dX8_stage_6 : decode cX8_stage 6 = .ok (.iconst 4, 1) := by decide +kernel
theorem dX8_stage_7 : decode cX8_stage 7 = .ok (.iload_n 1, 1) := by decide +kernel
theorem dX8_stage_8 : decode cX8_stage 8 = .ok (.imul, 1) := by decide +kernel
theorem dX8_stage_9 : decode cX8_stage 9 = .ok (.iadd, 1) := by decide +kernel
theorem dX8_stage_10 : decode cX8_stage 10 = .ok (.iconst 3, 1) := by decide +kernel
theorem dX8_stage_11 : decode cX8_stage 11 = .ok (.iadd, 1) := by decide +kernel
theorem dX8_stage_12 : decode cX8_stage 12 = .ok (.iload_n 2, 1) := by decide +kernel
theorem dX8_stage_13 : decode cX8_stage 13 = .ok (.iastore, 1) := by decide +kernel
theorem dX8_stage_14 : decode cX8_stage 14 = .ok (.return_, 1) := by decide +kernel
theorem dX8_file_0 : decode cX8_file 0 = .ok (.aload_n 0, 1) := by decide +kernel
theorem dX8_file_1 : decode cX8_file 1 = .ok (.iload_n 1, 1) := by decide +kernel
theorem dX8_file_2 : decode cX8_file 2 = .ok (.invokevirtual 145, 3) := by decide +kernel
theorem dX8_file_5 : decode cX8_file 5 = .ok (.ifCond .ne 5, 3) := by decide +kernel
theorem dX8_file_8 : decode cX8_file 8 = .ok (.iconst (-1), 1) := by decide +kernel
theorem dX8_file_9 : decode cX8_file 9 = .ok (.ireturn, 1) := by decide +kernel
theorem dX8_file_10 : decode cX8_file 10 = .ok (.aload_n 0, 1) := by decide +kernel
theorem dX8_file_11 : decode cX8_file 11 = .ok (.iload_n 1, 1) := by decide +kernel
theorem dX8_file_12 : decode cX8_file 12 = .ok (.iconst 0, 1) := by decide +kernel
theorem dX8_file_13 : decode cX8_file 13 = .ok (.invokevirtual 148, 3) := by decide +kernel
theorem dX8_file_16 : decode cX8_file 16 = .ok (.istore_n 2, 1) := by decide +kernel
theorem dX8_file_17 : decode cX8_file 17 = .ok (.aload_n 0, 1) := by decide +kernel
theorem dX8_file_18 : decode cX8_file 18 = .ok (.aload_n 0, 1) := by decide +kernel
theorem dX8_file_19 : decode cX8_file 19 = .ok (.invokevirtual 26, 3) := by decide +kernel
theorem dX8_file_22 : decode cX8_file 22 = .ok (.iload_n 2, 1) := by decide +kernel
theorem dX8_file_23 : decode cX8_file 23 = .ok (.iconst 5, 1) := by decide +kernel
theorem dX8_file_24 : decode cX8_file 24 = .ok (.invokevirtual 34, 3) := by decide +kernel
theorem dX8_file_27 : decode cX8_file 27 = .ok (.aload_n 0, 1) := by decide +kernel
theorem dX8_file_28 : decode cX8_file 28 = .ok (.getfield 7, 3) := by decide +kernel
theorem dX8_file_31 : decode cX8_file 31 = .ok (.iconst 4, 1) := by decide +kernel
theorem dX8_file_32 : decode cX8_file 32 = .ok (.iaload, 1) := by decide +kernel
theorem dX8_file_33 : decode cX8_file 33 = .ok (.iadd, 1) := by decide +kernel
theorem dX8_file_34 : decode cX8_file 34 = .ok (.aload_n 0, 1) := by decide +kernel
theorem dX8_file_35 : decode cX8_file 35 = .ok (.getfield 7, 3) := by decide +kernel
theorem dX8_file_38 : decode cX8_file 38 = .ok (.iconst 0, 1) := by decide +kernel
theorem dX8_file_39 : decode cX8_file 39 = .ok (.iaload, 1) := by decide +kernel
theorem dX8_file_40 : decode cX8_file 40 = .ok (.isub, 1) := by decide +kernel
theorem dX8_file_41 : decode cX8_file 41 = .ok (.istore_n 3, 1) := by decide +kernel
theorem dX8_file_42 : decode cX8_file 42 = .ok (.aload_n 0, 1) := by decide +kernel
theorem dX8_file_43 : decode cX8_file 43 = .ok (.iload_n 1, 1) := by decide +kernel
theorem dX8_file_44 : decode cX8_file 44 = .ok (.iconst 3, 1) := by decide +kernel
theorem dX8_file_45 : decode cX8_file 45 = .ok (.invokevirtual 148, 3) := by decide +kernel
theorem dX8_file_48 : decode cX8_file 48 = .ok (.ifCond .ne 16, 3) := by decide +kernel
theorem dX8_file_51 : decode cX8_file 51 = .ok (.aload_n 0, 1) := by decide +kernel
theorem dX8_file_52 : decode cX8_file 52 = .ok (.iload_n 2, 1) := by decide +kernel
theorem dX8_file_53 : decode cX8_file 53 = .ok (.invokevirtual 109, 3) := by decide +kernel
theorem dX8_file_56 : decode cX8_file 56 = .ok (.iconst 3, 1) := by decide +kernel
theorem dX8_file_57 : decode cX8_file 57 = .ok (.if_icmp .ne 7, 3) := by decide +kernel
theorem dX8_file_60 : decode cX8_file 60 = .ok (.iload_n 3, 1) := by decide +kernel
theorem dX8_file_61 : decode cX8_file 61 = .ok (.ifCond .ge 6, 3) := by decide +kernel
theorem dX8_file_64 : decode cX8_file 64 = .ok (.bipush (-4), 2) := by decide +kernel
theorem dX8_file_66 : decode cX8_file 66 = .ok (.ireturn, 1) := by decide +kernel
theorem dX8_file_67 : decode cX8_file 67 = .ok (.aload_n 0, 1) := by decide +kernel
theorem dX8_file_68 : decode cX8_file 68 = .ok (.invokevirtual 81, 3) := by decide +kernel
theorem dX8_file_71 : decode cX8_file 71 = .ok (.aload_n 0, 1) := by decide +kernel
theorem dX8_file_72 : decode cX8_file 72 = .ok (.iload_n 1, 1) := by decide +kernel
theorem dX8_file_73 : decode cX8_file 73 = .ok (.iconst 1, 1) := by decide +kernel
theorem dX8_file_74 : decode cX8_file 74 = .ok (.invokevirtual 151, 3) := by decide +kernel
theorem dX8_file_77 : decode cX8_file 77 = .ok (.iload_n 3, 1) := by decide +kernel
theorem dX8_file_78 : decode cX8_file 78 = .ok (.ireturn, 1) := by decide +kernel
theorem dX8_accept_0 : decode cX8_accept 0 = .ok (.aload_n 0, 1) := by decide +kernel
theorem dX8_accept_1 : decode cX8_accept 1 = .ok (.iload_n 1, 1) := by decide +kernel
theorem dX8_accept_2 : decode cX8_accept 2 = .ok (.invokevirtual 145, 3) := by decide +kernel
theorem dX8_accept_5 : decode cX8_accept 5 = .ok (.ifCond .ne 5, 3) := by decide +kernel
theorem dX8_accept_8 : decode cX8_accept 8 = .ok (.iconst (-1), 1) := by decide +kernel
theorem dX8_accept_9 : decode cX8_accept 9 = .ok (.ireturn, 1) := by decide +kernel
theorem dX8_accept_10 : decode cX8_accept 10 = .ok (.aload_n 0, 1) := by decide +kernel
theorem dX8_accept_11 : decode cX8_accept 11 = .ok (.iload_n 1, 1) := by decide +kernel
theorem dX8_accept_12 : decode cX8_accept 12 = .ok (.iconst 1, 1) := by decide +kernel
theorem dX8_accept_13 : decode cX8_accept 13 = .ok (.invokevirtual 148, 3) := by decide +kernel
theorem dX8_accept_16 : decode cX8_accept 16 = .ok (.istore_n 2, 1) := by decide +kernel
theorem dX8_accept_17 : decode cX8_accept 17 = .ok (.aload_n 0, 1) := by decide +kernel
theorem dX8_accept_18 : decode cX8_accept 18 = .ok (.iload_n 1, 1) := by decide +kernel
theorem dX8_accept_19 : decode cX8_accept 19 = .ok (.iconst 3, 1) := by decide +kernel
theorem dX8_accept_20 : decode cX8_accept 20 = .ok (.invokevirtual 148, 3) := by decide +kernel
theorem dX8_accept_23 : decode cX8_accept 23 = .ok (.iconst 1, 1) := by decide +kernel
theorem dX8_accept_24 : decode cX8_accept 24 = .ok (.if_icmp .gt 12, 3) := by decide +kernel
theorem dX8_accept_27 : decode cX8_accept 27 = .ok (.aload_n 0, 1) := by decide +kernel
theorem dX8_accept_28 : decode cX8_accept 28 = .ok (.iload_n 2, 1) := by decide +kernel
theorem dX8_accept_29 : decode cX8_accept 29 = .ok (.invokevirtual 109, 3) := by decide +kernel
theorem dX8_accept_32 : decode cX8_accept 32 = .ok (.iconst 4, 1) := by decide +kernel
theorem dX8_accept_33 : decode cX8_accept 33 = .ok (.if_icmp .ne 6, 3) := by decide +kernel
theorem dX8_accept_36 : decode cX8_accept 36 = .ok (.bipush (-4), 2) := by decide +kernel
theorem dX8_accept_38 : decode cX8_accept 38 = .ok (.ireturn, 1) := by decide +kernel
theorem dX8_accept_39 : decode cX8_accept 39 = .ok (.aload_n 0, 1) := by decide +kernel
theorem dX8_accept_40 : decode cX8_accept 40 = .ok (.invokevirtual 81, 3) := by decide +kernel
theorem dX8_accept_43 : decode cX8_accept 43 = .ok (.aload_n 0, 1) := by decide +kernel
theorem dX8_accept_44 : decode cX8_accept 44 = .ok (.iload_n 1, 1) := by decide +kernel
theorem dX8_accept_45 : decode cX8_accept 45 = .ok (.iconst 2, 1) := by decide +kernel
theorem dX8_accept_46 : decode cX8_accept 46 = .ok (.invokevirtual 151, 3) := by decide +kernel
theorem dX8_accept_49 : decode cX8_accept 49 = .ok (.aload_n 0, 1) := by decide +kernel
theorem dX8_accept_50 : decode cX8_accept 50 = .ok (.aload_n 0, 1) := by decide +kernel
theorem dX8_accept_51 : decode cX8_accept 51 = .ok (.invokevirtual 26, 3) := by decide +kernel
theorem dX8_accept_54 : decode cX8_accept 54 = .ok (.iload_n 2, 1) := by decide +kernel
theorem dX8_accept_55 : decode cX8_accept 55 = .ok (.iconst 3, 1) := by decide +kernel
theorem dX8_accept_56 : decode cX8_accept 56 = .ok (.invokevirtual 34, 3) := by decide +kernel
theorem dX8_accept_59 : decode cX8_accept 59 = .ok (.aload_n 0, 1) := by decide +kernel
theorem dX8_accept_60 : decode cX8_accept 60 = .ok (.getfield 7, 3) := by decide +kernel
theorem dX8_accept_63 : decode cX8_accept 63 = .ok (.iconst 5, 1) := by decide +kernel
theorem dX8_accept_64 : decode cX8_accept 64 = .ok (.iaload, 1) := by decide +kernel
theorem dX8_accept_65 : decode cX8_accept 65 = .ok (.iadd, 1) := by decide +kernel
theorem dX8_accept_66 : decode cX8_accept 66 = .ok (.istore_n 3, 1) := by decide +kernel
theorem dX8_accept_67 : decode cX8_accept 67 = .ok (.aload_n 0, 1) := by decide +kernel
theorem dX8_accept_68 : decode cX8_accept 68 = .ok (.aload_n 0, 1) := by decide +kernel
theorem dX8_accept_69 : decode cX8_accept 69 = .ok (.invokevirtual 26, 3) := by decide +kernel
theorem dX8_accept_72 : decode cX8_accept 72 = .ok (.iload_n 2, 1) := by decide +kernel
theorem dX8_accept_73 : decode cX8_accept 73 = .ok (.iconst 3, 1) := by decide +kernel
theorem dX8_accept_74 : decode cX8_accept 74 = .ok (.iload_n 3, 1) := by decide +kernel
theorem dX8_accept_75 : decode cX8_accept 75 = .ok (.invokevirtual 84, 3) := by decide +kernel
theorem dX8_accept_78 : decode cX8_accept 78 = .ok (.iload_n 3, 1) := by decide +kernel
theorem dX8_accept_79 : decode cX8_accept 79 = .ok (.ireturn, 1) := by decide +kernel
theorem dX8_decide_0 : decode cX8_decide 0 = .ok (.aload_n 0, 1) := by decide +kernel
theorem dX8_decide_1 : decode cX8_decide 1 = .ok (.iload_n 1, 1) := by decide +kernel
theorem dX8_decide_2 : decode cX8_decide 2 = .ok (.invokevirtual 145, 3) := by decide +kernel
theorem dX8_decide_5 : decode cX8_decide 5 = .ok (.ifCond .ne 5, 3) := by decide +kernel
theorem dX8_decide_8 : decode cX8_decide 8 = .ok (.iconst (-1), 1) := by decide +kernel
theorem dX8_decide_9 : decode cX8_decide 9 = .ok (.ireturn, 1) := by decide +kernel
theorem dX8_decide_10 : decode cX8_decide 10 = .ok (.aload_n 0, 1) := by decide +kernel
theorem dX8_decide_11 : decode cX8_decide 11 = .ok (.iload_n 1, 1) := by decide +kernel
theorem dX8_decide_12 : decode cX8_decide 12 = .ok (.iconst 3, 1) := by decide +kernel
theorem dX8_decide_13 : decode cX8_decide 13 = .ok (.invokevirtual 148, 3) := by decide +kernel
theorem dX8_decide_16 : decode cX8_decide 16 = .ok (.iconst 1, 1) := by decide +kernel
theorem dX8_decide_17 : decode cX8_decide 17 = .ok (.if_icmp .eq 6, 3) := by decide +kernel
theorem dX8_decide_20 : decode cX8_decide 20 = .ok (.bipush (-4), 2) := by decide +kernel
theorem dX8_decide_22 : decode cX8_decide 22 = .ok (.ireturn, 1) := by decide +kernel
theorem dX8_decide_23 : decode cX8_decide 23 = .ok (.aload_n 0, 1) := by decide +kernel
theorem dX8_decide_24 : decode cX8_decide 24 = .ok (.invokevirtual 81, 3) := by decide +kernel
theorem dX8_decide_27 : decode cX8_decide 27 = .ok (.aload_n 0, 1) := by decide +kernel
theorem dX8_decide_28 : decode cX8_decide 28 = .ok (.iload_n 1, 1) := by decide +kernel
theorem dX8_decide_29 : decode cX8_decide 29 = .ok (.iload_n 2, 1) := by decide +kernel
theorem dX8_decide_30 : decode cX8_decide 30 = .ok (.ifCond .eq 7, 3) := by decide +kernel
theorem dX8_decide_33 : decode cX8_decide 33 = .ok (.iconst 3, 1) := by decide +kernel
theorem dX8_decide_34 : decode cX8_decide 34 = .ok (.goto 4, 3) := by decide +kernel
theorem dX8_decide_37 : decode cX8_decide 37 = .ok (.iconst 4, 1) := by decide +kernel
theorem dX8_decide_38 : decode cX8_decide 38 = .ok (.invokevirtual 151, 3) := by decide +kernel
theorem dX8_decide_41 : decode cX8_decide 41 = .ok (.iload_n 2, 1) := by decide +kernel
theorem dX8_decide_42 : decode cX8_decide 42 = .ok (.ifCond .eq 19, 3) := by decide +kernel
theorem dX8_decide_45 : decode cX8_decide 45 = .ok (.aload_n 0, 1) := by decide +kernel
theorem dX8_decide_46 : decode cX8_decide 46 = .ok (.aload_n 0, 1) := by decide +kernel
theorem dX8_decide_47 : decode cX8_decide 47 = .ok (.invokevirtual 26, 3) := by decide +kernel
theorem dX8_decide_50 : decode cX8_decide 50 = .ok (.aload_n 0, 1) := by decide +kernel
theorem dX8_decide_51 : decode cX8_decide 51 = .ok (.iload_n 1, 1) := by decide +kernel
theorem dX8_decide_52 : decode cX8_decide 52 = .ok (.iconst 1, 1) := by decide +kernel
theorem dX8_decide_53 : decode cX8_decide 53 = .ok (.invokevirtual 148, 3) := by decide +kernel
theorem dX8_decide_56 : decode cX8_decide 56 = .ok (.iconst 4, 1) := by decide +kernel
theorem dX8_decide_57 : decode cX8_decide 57 = .ok (.iconst 1, 1) := by decide +kernel
theorem dX8_decide_58 : decode cX8_decide 58 = .ok (.invokevirtual 84, 3) := by decide +kernel
theorem dX8_decide_61 : decode cX8_decide 61 = .ok (.aload_n 0, 1) := by decide +kernel
theorem dX8_decide_62 : decode cX8_decide 62 = .ok (.aload_n 0, 1) := by decide +kernel
theorem dX8_decide_63 : decode cX8_decide 63 = .ok (.invokevirtual 26, 3) := by decide +kernel
theorem dX8_decide_66 : decode cX8_decide 66 = .ok (.invokevirtual 155, 3) := by decide +kernel
theorem dX8_decide_69 : decode cX8_decide 69 = .ok (.ireturn, 1) := by decide +kernel
theorem dX8_set_0 : decode cX8_set 0 = .ok (.iload_n 1, 1) := by decide +kernel
theorem dX8_set_1 : decode cX8_set 1 = .ok (.iconst 0, 1) := by decide +kernel
theorem dX8_set_2 : decode cX8_set 2 = .ok (.iconst 2, 1) := by decide +kernel
theorem dX8_set_3 : decode cX8_set 3 = .ok (.invokestatic 22, 3) := by decide +kernel
theorem dX8_set_6 : decode cX8_set 6 = .ok (.ifCond .ne 5, 3) := by decide +kernel
theorem dX8_set_9 : decode cX8_set 9 = .ok (.iconst (-1), 1) := by decide +kernel
theorem dX8_set_10 : decode cX8_set 10 = .ok (.ireturn, 1) := by decide +kernel
theorem dX8_set_11 : decode cX8_set 11 = .ok (.iload_n 2, 1) := by decide +kernel
theorem dX8_set_12 : decode cX8_set 12 = .ok (.iload_n 1, 1) := by decide +kernel
theorem dX8_set_13 : decode cX8_set 13 = .ok (.iconst 2, 1) := by decide +kernel
theorem dX8_set_14 : decode cX8_set 14 = .ok (.if_icmp .ne 7, 3) := by decide +kernel
theorem dX8_set_17 : decode cX8_set 17 = .ok (.iconst 0, 1) := by decide +kernel
theorem dX8_set_18 : decode cX8_set 18 = .ok (.goto 4, 3) := by decide +kernel
theorem dX8_set_21 : decode cX8_set 21 = .ok (.iconst 1, 1) := by decide +kernel
theorem dX8_set_22 : decode cX8_set 22 = .ok (.iload_n 1, 1) := by decide +kernel
theorem dX8_set_23 : decode cX8_set 23 = .ok (.ifCond .ne 9, 3) := by decide +kernel
theorem dX8_set_26 : decode cX8_set 26 = .ok (.sipush 3600, 3) := by decide +kernel
theorem dX8_set_29 : decode cX8_set 29 = .ok (.goto 16, 3) := by decide +kernel
theorem dX8_set_32 : decode cX8_set 32 = .ok (.iload_n 1, 1) := by decide +kernel
theorem dX8_set_33 : decode cX8_set 33 = .ok (.iconst 1, 1) := by decide +kernel
theorem dX8_set_34 : decode cX8_set 34 = .ok (.if_icmp .ne 9, 3) := by decide +kernel
theorem dX8_set_37 : decode cX8_set 37 = .ok (.sipush 300, 3) := by decide +kernel
theorem dX8_set_40 : decode cX8_set 40 = .ok (.goto 5, 3) := by decide +kernel
theorem dX8_set_43 : decode cX8_set 43 = .ok (.bipush 6, 2) := by decide +kernel
theorem dX8_set_45 : decode cX8_set 45 = .ok (.invokestatic 22, 3) := by decide +kernel
theorem dX8_set_48 : decode cX8_set 48 = .ok (.ifCond .ne 6, 3) := by decide +kernel
theorem dX8_set_51 : decode cX8_set 51 = .ok (.bipush (-2), 2) := by decide +kernel
theorem dX8_set_53 : decode cX8_set 53 = .ok (.ireturn, 1) := by decide +kernel
theorem dX8_set_54 : decode cX8_set 54 = .ok (.aload_n 0, 1) := by decide +kernel
theorem dX8_set_55 : decode cX8_set 55 = .ok (.invokevirtual 81, 3) := by decide +kernel
theorem dX8_set_58 : decode cX8_set 58 = .ok (.aload_n 0, 1) := by decide +kernel
theorem dX8_set_59 : decode cX8_set 59 = .ok (.getfield 7, 3) := by decide +kernel
theorem dX8_set_62 : decode cX8_set 62 = .ok (.iconst 4, 1) := by decide +kernel
theorem dX8_set_63 : decode cX8_set 63 = .ok (.iload_n 1, 1) := by decide +kernel
theorem dX8_set_64 : decode cX8_set 64 = .ok (.iadd, 1) := by decide +kernel
theorem dX8_set_65 : decode cX8_set 65 = .ok (.iaload, 1) := by decide +kernel
theorem dX8_set_66 : decode cX8_set 66 = .ok (.istore_n 3, 1) := by decide +kernel
theorem dX8_set_67 : decode cX8_set 67 = .ok (.aload_n 0, 1) := by decide +kernel
theorem dX8_set_68 : decode cX8_set 68 = .ok (.getfield 7, 3) := by decide +kernel
theorem dX8_set_71 : decode cX8_set 71 = .ok (.iconst 4, 1) := by decide +kernel
theorem dX8_set_72 : decode cX8_set 72 = .ok (.iload_n 1, 1) := by decide +kernel
theorem dX8_set_73 : decode cX8_set 73 = .ok (.iadd, 1) := by decide +kernel
theorem dX8_set_74 : decode cX8_set 74 = .ok (.iload_n 2, 1) := by decide +kernel
theorem dX8_set_75 : decode cX8_set 75 = .ok (.iastore, 1) := by decide +kernel
theorem dX8_set_76 : decode cX8_set 76 = .ok (.iload_n 3, 1) := by decide +kernel
theorem dX8_set_77 : decode cX8_set 77 = .ok (.ireturn, 1) := by decide +kernel
theorem dX8_append_0 : decode cX8_append 0 = .ok (.iload_n 1, 1) := by decide +kernel
theorem dX8_append_1 : decode cX8_append 1 = .ok (.bipush 32, 2) := by decide +kernel
theorem dX8_append_3 : decode cX8_append 3 = .ok (.bipush 126, 2) := by decide +kernel
theorem dX8_append_5 : decode cX8_append 5 = .ok (.invokestatic 22, 3) := by decide +kernel
theorem dX8_append_8 : decode cX8_append 8 = .ok (.ifCond .ne 6, 3) := by decide +kernel
theorem dX8_append_11 : decode cX8_append 11 = .ok (.bipush (-2), 2) := by decide +kernel
theorem dX8_append_13 : decode cX8_append 13 = .ok (.ireturn, 1) := by decide +kernel
theorem dX8_append_14 : decode cX8_append 14 = .ok (.aload_n 0, 1) := by decide +kernel
theorem dX8_append_15 : decode cX8_append 15 = .ok (.getfield 158, 3) := by decide +kernel
theorem dX8_append_18 : decode cX8_append 18 = .ok (.bipush 80, 2) := by decide +kernel
theorem dX8_append_20 : decode cX8_append 20 = .ok (.if_icmp .ne 6, 3) := by decide +kernel
theorem dX8_append_23 : decode cX8_append 23 = .ok (.bipush (-3), 2) := by decide +kernel
theorem dX8_append_25 : decode cX8_append 25 = .ok (.ireturn, 1) := by decide +kernel
theorem dX8_append_26 : decode cX8_append 26 = .ok (.aload_n 0, 1) := by decide +kernel
theorem dX8_append_27 : decode cX8_append 27 = .ok (.getfield 19, 3) := by decide +kernel
theorem dX8_append_30 : decode cX8_append 30 = .ok (.aload_n 0, 1) := by decide +kernel
theorem dX8_append_31 : decode cX8_append 31 = .ok (.getfield 158, 3) := by decide +kernel
theorem dX8_append_34 : decode cX8_append 34 = .ok (.iload_n 1, 1) := by decide +kernel
theorem dX8_append_35 : decode cX8_append 35 = .ok (.iastore, 1) := by decide +kernel
theorem dX8_append_36 : decode cX8_append 36 = .ok (.aload_n 0, 1) := by decide +kernel
theorem dX8_append_37 : decode cX8_append 37 = .ok (.dup, 1) := by decide +kernel
theorem dX8_append_38 : decode cX8_append 38 = .ok (.getfield 158, 3) := by decide +kernel
theorem dX8_append_41 : decode cX8_append 41 = .ok (.iconst 1, 1) := by decide +kernel
theorem dX8_append_42 : decode cX8_append 42 = .ok (.iadd, 1) := by decide +kernel
theorem dX8_append_43 : decode cX8_append 43 = .ok (.putfield 158, 3) := by decide +kernel
theorem dX8_append_46 : decode cX8_append 46 = .ok (.aload_n 0, 1) := by decide +kernel
theorem dX8_append_47 : decode cX8_append 47 = .ok (.getfield 158, 3) := by decide +kernel
theorem dX8_append_50 : decode cX8_append 50 = .ok (.ireturn, 1) := by decide +kernel
theorem dX8_clearText_0 : decode cX8_clearText 0 = .ok (.aload_n 0, 1) := by decide +kernel
theorem dX8_clearText_1 : decode cX8_clearText 1 = .ok (.getfield 158, 3) := by decide +kernel
theorem dX8_clearText_4 : decode cX8_clearText 4 = .ok (.istore_n 1, 1) := by decide +kernel
theorem dX8_clearText_5 : decode cX8_clearText 5 = .ok (.aload_n 0, 1) := by decide +kernel
theorem dX8_clearText_6 : decode cX8_clearText 6 = .ok (.iconst 0, 1) := by decide +kernel
theorem dX8_clearText_7 : decode cX8_clearText 7 = .ok (.putfield 158, 3) := by decide +kernel
theorem dX8_clearText_10 : decode cX8_clearText 10 = .ok (.iload_n 1, 1) := by decide +kernel
theorem dX8_clearText_11 : decode cX8_clearText 11 = .ok (.ireturn, 1) := by decide +kernel
theorem dX8_isNext_0 : decode cX8_isNext 0 = .ok (.aload_n 0, 1) := by decide +kernel
theorem dX8_isNext_1 : decode cX8_isNext 1 = .ok (.getfield 161, 3) := by decide +kernel
theorem dX8_isNext_4 : decode cX8_isNext 4 = .ok (.aload_n 0, 1) := by decide +kernel
theorem dX8_isNext_5 : decode cX8_isNext 5 = .ok (.getfield 158, 3) := by decide +kernel
theorem dX8_isNext_8 : decode cX8_isNext 8 = .ok (.if_icmp .ge 24, 3) := by decide +kernel
theorem dX8_isNext_11 : decode cX8_isNext 11 = .ok (.aload_n 0, 1) := by decide +kernel
theorem dX8_isNext_12 : decode cX8_isNext 12 = .ok (.getfield 19, 3) := by decide +kernel
theorem dX8_isNext_15 : decode cX8_isNext 15 = .ok (.aload_n 0, 1) := by decide +kernel
theorem dX8_isNext_16 : decode cX8_isNext 16 = .ok (.getfield 161, 3) := by decide +kernel
theorem dX8_isNext_19 : decode cX8_isNext 19 = .ok (.iaload, 1) := by decide +kernel
theorem dX8_isNext_20 : decode cX8_isNext 20 = .ok (.iload_n 1, 1) := by decide +kernel
theorem dX8_isNext_21 : decode cX8_isNext 21 = .ok (.iload_n 2, 1) := by decide +kernel
theorem dX8_isNext_22 : decode cX8_isNext 22 = .ok (.invokestatic 22, 3) := by decide +kernel
theorem dX8_isNext_25 : decode cX8_isNext 25 = .ok (.ifCond .eq 7, 3) := by decide +kernel
theorem dX8_isNext_28 : decode cX8_isNext 28 = .ok (.iconst 1, 1) := by decide +kernel
theorem dX8_isNext_29 : decode cX8_isNext 29 = .ok (.goto 4, 3) := by decide +kernel
theorem dX8_isNext_32 : decode cX8_isNext 32 = .ok (.iconst 0, 1) := by decide +kernel
theorem dX8_isNext_33 : decode cX8_isNext 33 = .ok (.ireturn, 1) := by decide +kernel
theorem dX8_takes_0 : decode cX8_takes 0 = .ok (.aload_n 0, 1) := by decide +kernel
theorem dX8_takes_1 : decode cX8_takes 1 = .ok (.iload_n 1, 1) := by decide +kernel
theorem dX8_takes_2 : decode cX8_takes 2 = .ok (.iload_n 1, 1) := by decide +kernel
theorem dX8_takes_3 : decode cX8_takes 3 = .ok (.invokevirtual 164, 3) := by decide +kernel
theorem dX8_takes_6 : decode cX8_takes 6 = .ok (.istore_n 2, 1) := by decide +kernel
theorem dX8_takes_7 : decode cX8_takes 7 = .ok (.aload_n 0, 1) := by decide +kernel
theorem dX8_takes_8 : decode cX8_takes 8 = .ok (.dup, 1) := by decide +kernel
theorem dX8_takes_9 : decode cX8_takes 9 = .ok (.getfield 161, 3) := by decide +kernel
theorem dX8_takes_12 : decode cX8_takes 12 = .ok (.iload_n 2, 1) := by decide +kernel
theorem dX8_takes_13 : decode cX8_takes 13 = .ok (.ifCond .eq 7, 3) := by decide +kernel
theorem dX8_takes_16 : decode cX8_takes 16 = .ok (.iconst 1, 1) := by decide +kernel
theorem dX8_takes_17 : decode cX8_takes 17 = .ok (.goto 4, 3) := by decide +kernel
theorem dX8_takes_20 : decode cX8_takes 20 = .ok (.iconst 0, 1) := by decide +kernel
theorem dX8_takes_21 : decode cX8_takes 21 = .ok (.iadd, 1) := by decide +kernel
theorem dX8_takes_22 : decode cX8_takes 22 = .ok (.putfield 161, 3) := by decide +kernel
theorem dX8_takes_25 : decode cX8_takes 25 = .ok (.iload_n 2, 1) := by decide +kernel
theorem dX8_takes_26 : decode cX8_takes 26 = .ok (.ireturn, 1) := by decide +kernel
theorem dX8_readDigit_0 : decode cX8_readDigit 0 = .ok (.aload_n 0, 1) := by decide +kernel
theorem dX8_readDigit_1 : decode cX8_readDigit 1 = .ok (.bipush 48, 2) := by decide +kernel
theorem dX8_readDigit_3 : decode cX8_readDigit 3 = .ok (.bipush 48, 2) := by decide +kernel
theorem dX8_readDigit_5 : decode cX8_readDigit 5 = .ok (.iload_n 1, 1) := by decide +kernel
theorem dX8_readDigit_6 : decode cX8_readDigit 6 = .ok (.iadd, 1) := by decide +kernel
theorem dX8_readDigit_7 : decode cX8_readDigit 7 = .ok (.invokevirtual 164, 3) := by decide +kernel
theorem dX8_readDigit_10 : decode cX8_readDigit 10 = .ok (.ifCond .eq 18, 3) := by decide +kernel
theorem dX8_readDigit_13 : decode cX8_readDigit 13 = .ok (.aload_n 0, 1) := by decide +kernel
theorem dX8_readDigit_14 : decode cX8_readDigit 14 = .ok (.getfield 19, 3) := by decide +kernel
theorem dX8_readDigit_17 : decode cX8_readDigit 17 = .ok (.aload_n 0, 1) := by decide +kernel
theorem dX8_readDigit_18 : decode cX8_readDigit 18 = .ok (.getfield 161, 3) := by decide +kernel
theorem dX8_readDigit_21 : decode cX8_readDigit 21 = .ok (.iaload, 1) := by decide +kernel
theorem dX8_readDigit_22 : decode cX8_readDigit 22 = .ok (.bipush 48, 2) := by decide +kernel
theorem dX8_readDigit_24 : decode cX8_readDigit 24 = .ok (.isub, 1) := by decide +kernel
theorem dX8_readDigit_25 : decode cX8_readDigit 25 = .ok (.goto 5, 3) := by decide +kernel
theorem dX8_readDigit_28 : decode cX8_readDigit 28 = .ok (.bipush (-5), 2) := by decide +kernel
theorem dX8_readDigit_30 : decode cX8_readDigit 30 = .ok (.istore_n 2, 1) := by decide +kernel
theorem dX8_readDigit_31 : decode cX8_readDigit 31 = .ok (.aload_n 0, 1) := by decide +kernel
theorem dX8_readDigit_32 : decode cX8_readDigit 32 = .ok (.dup, 1) := by decide +kernel
theorem dX8_readDigit_33 : decode cX8_readDigit 33 = .ok (.getfield 161, 3) := by decide +kernel
theorem dX8_readDigit_36 : decode cX8_readDigit 36 = .ok (.iload_n 2, 1) := by decide +kernel
theorem dX8_readDigit_37 : decode cX8_readDigit 37 = .ok (.bipush (-5), 2) := by decide +kernel
theorem dX8_readDigit_39 : decode cX8_readDigit 39 = .ok (.if_icmp .ne 7, 3) := by decide +kernel
theorem dX8_readDigit_42 : decode cX8_readDigit 42 = .ok (.iconst 0, 1) := by decide +kernel
theorem dX8_readDigit_43 : decode cX8_readDigit 43 = .ok (.goto 4, 3) := by decide +kernel
theorem dX8_readDigit_46 : decode cX8_readDigit 46 = .ok (.iconst 1, 1) := by decide +kernel
theorem dX8_readDigit_47 : decode cX8_readDigit 47 = .ok (.iadd, 1) := by decide +kernel
theorem dX8_readDigit_48 : decode cX8_readDigit 48 = .ok (.putfield 161, 3) := by decide +kernel
theorem dX8_readDigit_51 : decode cX8_readDigit 51 = .ok (.iload_n 2, 1) := by decide +kernel
theorem dX8_readDigit_52 : decode cX8_readDigit 52 = .ok (.ireturn, 1) := by decide +kernel
theorem dX8_readSeconds_0 : decode cX8_readSeconds 0 = .ok (.aload_n 0, 1) := by decide +kernel
theorem dX8_readSeconds_1 : decode cX8_readSeconds 1 = .ok (.bipush 49, 2) := by decide +kernel
theorem dX8_readSeconds_3 : decode cX8_readSeconds 3 = .ok (.bipush 57, 2) := by decide +kernel
theorem dX8_readSeconds_5 : decode cX8_readSeconds 5 = .ok (.invokevirtual 164, 3) := by decide +kernel
theorem dX8_readSeconds_8 : decode cX8_readSeconds 8 = .ok (.ifCond .ne 6, 3) := by decide +kernel
theorem dX8_readSeconds_11 : decode cX8_readSeconds 11 = .ok (.bipush (-5), 2) := by decide +kernel
theorem dX8_readSeconds_13 : decode cX8_readSeconds 13 = .ok (.ireturn, 1) := by decide +kernel
theorem dX8_readSeconds_14 : decode cX8_readSeconds 14 = .ok (.iconst 0, 1) := by decide +kernel
theorem dX8_readSeconds_15 : decode cX8_readSeconds 15 = .ok (.istore_n 1, 1) := by decide +kernel
theorem dX8_readSeconds_16 : decode cX8_readSeconds 16 = .ok (.aload_n 0, 1) := by decide +kernel
theorem dX8_readSeconds_17 : decode cX8_readSeconds 17 = .ok (.bipush 48, 2) := by decide +kernel
theorem dX8_readSeconds_19 : decode cX8_readSeconds 19 = .ok (.bipush 57, 2) := by decide +kernel
theorem dX8_readSeconds_21 : decode cX8_readSeconds 21 = .ok (.invokevirtual 164, 3) := by decide +kernel
theorem dX8_readSeconds_24 : decode cX8_readSeconds 24 = .ok (.ifCond .eq 40, 3) := by decide +kernel
theorem dX8_readSeconds_27 : decode cX8_readSeconds 27 = .ok (.iload_n 1, 1) := by decide +kernel
theorem dX8_readSeconds_28 : decode cX8_readSeconds 28 = .ok (.bipush 100, 2) := by decide +kernel
theorem dX8_readSeconds_30 : decode cX8_readSeconds 30 = .ok (.if_icmp .ge 34, 3) := by decide +kernel
theorem dX8_readSeconds_33 : decode cX8_readSeconds 33 = .ok (.bipush 10, 2) := by decide +kernel
theorem dX8_readSeconds_35 : decode cX8_readSeconds 35 = .ok (.iload_n 1, 1) := by decide +kernel
theorem dX8_readSeconds_36 : decode cX8_readSeconds 36 = .ok (.imul, 1) := by decide +kernel
theorem dX8_readSeconds_37 : decode cX8_readSeconds 37 = .ok (.aload_n 0, 1) := by decide +kernel
theorem dX8_readSeconds_38 : decode cX8_readSeconds 38 = .ok (.getfield 19, 3) := by decide +kernel
theorem dX8_readSeconds_41 : decode cX8_readSeconds 41 = .ok (.aload_n 0, 1) := by decide +kernel
theorem dX8_readSeconds_42 : decode cX8_readSeconds 42 = .ok (.getfield 161, 3) := by decide +kernel
theorem dX8_readSeconds_45 : decode cX8_readSeconds 45 = .ok (.iaload, 1) := by decide +kernel
theorem dX8_readSeconds_46 : decode cX8_readSeconds 46 = .ok (.iadd, 1) := by decide +kernel
theorem dX8_readSeconds_47 : decode cX8_readSeconds 47 = .ok (.bipush 48, 2) := by decide +kernel
theorem dX8_readSeconds_49 : decode cX8_readSeconds 49 = .ok (.isub, 1) := by decide +kernel
theorem dX8_readSeconds_50 : decode cX8_readSeconds 50 = .ok (.istore_n 1, 1) := by decide +kernel
theorem dX8_readSeconds_51 : decode cX8_readSeconds 51 = .ok (.aload_n 0, 1) := by decide +kernel
theorem dX8_readSeconds_52 : decode cX8_readSeconds 52 = .ok (.dup, 1) := by decide +kernel
theorem dX8_readSeconds_53 : decode cX8_readSeconds 53 = .ok (.getfield 161, 3) := by decide +kernel
theorem dX8_readSeconds_56 : decode cX8_readSeconds 56 = .ok (.iconst 1, 1) := by decide +kernel
theorem dX8_readSeconds_57 : decode cX8_readSeconds 57 = .ok (.iadd, 1) := by decide +kernel
theorem dX8_readSeconds_58 : decode cX8_readSeconds 58 = .ok (.putfield 161, 3) := by decide +kernel
theorem dX8_readSeconds_61 : decode cX8_readSeconds 61 = .ok (.goto (-45), 3) := by decide +kernel
theorem dX8_readSeconds_64 : decode cX8_readSeconds 64 = .ok (.iload_n 1, 1) := by decide +kernel
theorem dX8_readSeconds_65 : decode cX8_readSeconds 65 = .ok (.ireturn, 1) := by decide +kernel
theorem dX8_readEvent_0 : decode cX8_readEvent 0 = .ok (.aload_n 0, 1) := by decide +kernel
theorem dX8_readEvent_1 : decode cX8_readEvent 1 = .ok (.aload_n 0, 1) := by decide +kernel
theorem dX8_readEvent_2 : decode cX8_readEvent 2 = .ok (.getfield 161, 3) := by decide +kernel
theorem dX8_readEvent_5 : decode cX8_readEvent 5 = .ok (.aload_n 0, 1) := by decide +kernel
theorem dX8_readEvent_6 : decode cX8_readEvent 6 = .ok (.getfield 158, 3) := by decide +kernel
theorem dX8_readEvent_9 : decode cX8_readEvent 9 = .ok (.if_icmp .ge 15, 3) := by decide +kernel
theorem dX8_readEvent_12 : decode cX8_readEvent 12 = .ok (.aload_n 0, 1) := by decide +kernel
theorem dX8_readEvent_13 : decode cX8_readEvent 13 = .ok (.getfield 19, 3) := by decide +kernel
theorem dX8_readEvent_16 : decode cX8_readEvent 16 = .ok (.aload_n 0, 1) := by decide +kernel
theorem dX8_readEvent_17 : decode cX8_readEvent 17 = .ok (.getfield 161, 3) := by decide +kernel
theorem dX8_readEvent_20 : decode cX8_readEvent 20 = .ok (.iaload, 1) := by decide +kernel
theorem dX8_readEvent_21 : decode cX8_readEvent 21 = .ok (.goto 4, 3) := by decide +kernel
theorem dX8_readEvent_24 : decode cX8_readEvent 24 = .ok (.iconst 0, 1) := by decide +kernel
theorem dX8_readEvent_25 : decode cX8_readEvent 25 = .ok (.putfield 167, 3) := by decide +kernel
theorem dX8_readEvent_28 : decode cX8_readEvent 28 = .ok (.aload_n 0, 1) := by decide +kernel
theorem dX8_readEvent_29 : decode cX8_readEvent 29 = .ok (.dup, 1) := by decide +kernel
theorem dX8_readEvent_30 : decode cX8_readEvent 30 = .ok (.getfield 161, 3) := by decide +kernel
theorem dX8_readEvent_33 : decode cX8_readEvent 33 = .ok (.iconst 1, 1) := by decide +kernel
theorem dX8_readEvent_34 : decode cX8_readEvent 34 = .ok (.iadd, 1) := by decide +kernel
theorem dX8_readEvent_35 : decode cX8_readEvent 35 = .ok (.putfield 161, 3) := by decide +kernel
theorem dX8_readEvent_38 : decode cX8_readEvent 38 = .ok (.aload_n 0, 1) := by decide +kernel
theorem dX8_readEvent_39 : decode cX8_readEvent 39 = .ok (.getfield 167, 3) := by decide +kernel
theorem dX8_readEvent_42 : decode cX8_readEvent 42 = .ok (.lookupswitch 160 #[(43, 50), (98, 98), (104, 98), (108, 73), (114, 73)], 50) := by decide +kernel
theorem dX8_readEvent_92 : decode cX8_readEvent 92 = .ok (.aload_n 0, 1) := by decide +kernel
theorem dX8_readEvent_93 : decode cX8_readEvent 93 = .ok (.aload_n 0, 1) := by decide +kernel
theorem dX8_readEvent_94 : decode cX8_readEvent 94 = .ok (.invokevirtual 170, 3) := by decide +kernel
theorem dX8_readEvent_97 : decode cX8_readEvent 97 = .ok (.putfield 173, 3) := by decide +kernel
theorem dX8_readEvent_100 : decode cX8_readEvent 100 = .ok (.aload_n 0, 1) := by decide +kernel
theorem dX8_readEvent_101 : decode cX8_readEvent 101 = .ok (.getfield 173, 3) := by decide +kernel
theorem dX8_readEvent_104 : decode cX8_readEvent 104 = .ok (.bipush (-5), 2) := by decide +kernel
theorem dX8_readEvent_106 : decode cX8_readEvent 106 = .ok (.if_icmp .eq 7, 3) := by decide +kernel
theorem dX8_readEvent_109 : decode cX8_readEvent 109 = .ok (.iconst 1, 1) := by decide +kernel
theorem dX8_readEvent_110 : decode cX8_readEvent 110 = .ok (.goto 4, 3) := by decide +kernel
theorem dX8_readEvent_113 : decode cX8_readEvent 113 = .ok (.iconst 0, 1) := by decide +kernel
theorem dX8_readEvent_114 : decode cX8_readEvent 114 = .ok (.ireturn, 1) := by decide +kernel
theorem dX8_readEvent_115 : decode cX8_readEvent 115 = .ok (.aload_n 0, 1) := by decide +kernel
theorem dX8_readEvent_116 : decode cX8_readEvent 116 = .ok (.aload_n 0, 1) := by decide +kernel
theorem dX8_readEvent_117 : decode cX8_readEvent 117 = .ok (.bipush 8, 2) := by decide +kernel
theorem dX8_readEvent_119 : decode cX8_readEvent 119 = .ok (.invokevirtual 176, 3) := by decide +kernel
theorem dX8_readEvent_122 : decode cX8_readEvent 122 = .ok (.putfield 173, 3) := by decide +kernel
theorem dX8_readEvent_125 : decode cX8_readEvent 125 = .ok (.aload_n 0, 1) := by decide +kernel
theorem dX8_readEvent_126 : decode cX8_readEvent 126 = .ok (.getfield 173, 3) := by decide +kernel
theorem dX8_readEvent_129 : decode cX8_readEvent 129 = .ok (.bipush (-5), 2) := by decide +kernel
theorem dX8_readEvent_131 : decode cX8_readEvent 131 = .ok (.if_icmp .eq 7, 3) := by decide +kernel
theorem dX8_readEvent_134 : decode cX8_readEvent 134 = .ok (.iconst 1, 1) := by decide +kernel
theorem dX8_readEvent_135 : decode cX8_readEvent 135 = .ok (.goto 4, 3) := by decide +kernel
theorem dX8_readEvent_138 : decode cX8_readEvent 138 = .ok (.iconst 0, 1) := by decide +kernel
theorem dX8_readEvent_139 : decode cX8_readEvent 139 = .ok (.ireturn, 1) := by decide +kernel
theorem dX8_readEvent_140 : decode cX8_readEvent 140 = .ok (.aload_n 0, 1) := by decide +kernel
theorem dX8_readEvent_141 : decode cX8_readEvent 141 = .ok (.aload_n 0, 1) := by decide +kernel
theorem dX8_readEvent_142 : decode cX8_readEvent 142 = .ok (.bipush 8, 2) := by decide +kernel
theorem dX8_readEvent_144 : decode cX8_readEvent 144 = .ok (.invokevirtual 176, 3) := by decide +kernel
theorem dX8_readEvent_147 : decode cX8_readEvent 147 = .ok (.putfield 173, 3) := by decide +kernel
theorem dX8_readEvent_150 : decode cX8_readEvent 150 = .ok (.aload_n 0, 1) := by decide +kernel
theorem dX8_readEvent_151 : decode cX8_readEvent 151 = .ok (.aload_n 0, 1) := by decide +kernel
theorem dX8_readEvent_152 : decode cX8_readEvent 152 = .ok (.getfield 173, 3) := by decide +kernel
theorem dX8_readEvent_155 : decode cX8_readEvent 155 = .ok (.bipush (-5), 2) := by decide +kernel
theorem dX8_readEvent_157 : decode cX8_readEvent 157 = .ok (.if_icmp .ne 8, 3) := by decide +kernel
theorem dX8_readEvent_160 : decode cX8_readEvent 160 = .ok (.bipush (-5), 2) := by decide +kernel
theorem dX8_readEvent_162 : decode cX8_readEvent 162 = .ok (.goto 22, 3) := by decide +kernel
theorem dX8_readEvent_165 : decode cX8_readEvent 165 = .ok (.aload_n 0, 1) := by decide +kernel
theorem dX8_readEvent_166 : decode cX8_readEvent 166 = .ok (.aload_n 0, 1) := by decide +kernel
theorem dX8_readEvent_167 : decode cX8_readEvent 167 = .ok (.getfield 167, 3) := by decide +kernel
theorem dX8_readEvent_170 : decode cX8_readEvent 170 = .ok (.bipush 98, 2) := by decide +kernel
theorem dX8_readEvent_172 : decode cX8_readEvent 172 = .ok (.if_icmp .ne 7, 3) := by decide +kernel
theorem dX8_readEvent_175 : decode cX8_readEvent 175 = .ok (.iconst 4, 1) := by decide +kernel
theorem dX8_readEvent_176 : decode cX8_readEvent 176 = .ok (.goto 5, 3) := by decide +kernel
theorem dX8_readEvent_179 : decode cX8_readEvent 179 = .ok (.bipush 8, 2) := by decide +kernel
theorem dX8_readEvent_181 : decode cX8_readEvent 181 = .ok (.invokevirtual 176, 3) := by decide +kernel
theorem dX8_readEvent_184 : decode cX8_readEvent 184 = .ok (.putfield 179, 3) := by decide +kernel
theorem dX8_readEvent_187 : decode cX8_readEvent 187 = .ok (.aload_n 0, 1) := by decide +kernel
theorem dX8_readEvent_188 : decode cX8_readEvent 188 = .ok (.getfield 179, 3) := by decide +kernel
theorem dX8_readEvent_191 : decode cX8_readEvent 191 = .ok (.bipush (-5), 2) := by decide +kernel
theorem dX8_readEvent_193 : decode cX8_readEvent 193 = .ok (.if_icmp .eq 7, 3) := by decide +kernel
theorem dX8_readEvent_196 : decode cX8_readEvent 196 = .ok (.iconst 1, 1) := by decide +kernel
theorem dX8_readEvent_197 : decode cX8_readEvent 197 = .ok (.goto 4, 3) := by decide +kernel
theorem dX8_readEvent_200 : decode cX8_readEvent 200 = .ok (.iconst 0, 1) := by decide +kernel
theorem dX8_readEvent_201 : decode cX8_readEvent 201 = .ok (.ireturn, 1) := by decide +kernel
theorem dX8_readEvent_202 : decode cX8_readEvent 202 = .ok (.aload_n 0, 1) := by decide +kernel
theorem dX8_readEvent_203 : decode cX8_readEvent 203 = .ok (.dup, 1) := by decide +kernel
theorem dX8_readEvent_204 : decode cX8_readEvent 204 = .ok (.getfield 161, 3) := by decide +kernel
theorem dX8_readEvent_207 : decode cX8_readEvent 207 = .ok (.iconst 1, 1) := by decide +kernel
theorem dX8_readEvent_208 : decode cX8_readEvent 208 = .ok (.isub, 1) := by decide +kernel
theorem dX8_readEvent_209 : decode cX8_readEvent 209 = .ok (.putfield 161, 3) := by decide +kernel
theorem dX8_readEvent_212 : decode cX8_readEvent 212 = .ok (.iconst 0, 1) := by decide +kernel
theorem dX8_readEvent_213 : decode cX8_readEvent 213 = .ok (.ireturn, 1) := by decide +kernel
theorem dX8_errorOfEvent_0 : decode cX8_errorOfEvent 0 = .ok (.aload_n 0, 1) := by decide +kernel
theorem dX8_errorOfEvent_1 : decode cX8_errorOfEvent 1 = .ok (.getfield 167, 3) := by decide +kernel
theorem dX8_errorOfEvent_4 : decode cX8_errorOfEvent 4 = .ok (.lookupswitch 84 #[(43, 44), (98, 71), (108, 53), (114, 62)], 44) := by decide +kernel
theorem dX8_errorOfEvent_48 : decode cX8_errorOfEvent 48 = .ok (.aload_n 0, 1) := by decide +kernel
theorem dX8_errorOfEvent_49 : decode cX8_errorOfEvent 49 = .ok (.aload_n 0, 1) := by decide +kernel
theorem dX8_errorOfEvent_50 : decode cX8_errorOfEvent 50 = .ok (.getfield 173, 3) := by decide +kernel
theorem dX8_errorOfEvent_53 : decode cX8_errorOfEvent 53 = .ok (.invokevirtual 99, 3) := by decide +kernel
theorem dX8_errorOfEvent_56 : decode cX8_errorOfEvent 56 = .ok (.ireturn, 1) := by decide +kernel
theorem dX8_errorOfEvent_57 : decode cX8_errorOfEvent 57 = .ok (.aload_n 0, 1) := by decide +kernel
theorem dX8_errorOfEvent_58 : decode cX8_errorOfEvent 58 = .ok (.aload_n 0, 1) := by decide +kernel
theorem dX8_errorOfEvent_59 : decode cX8_errorOfEvent 59 = .ok (.getfield 173, 3) := by decide +kernel
theorem dX8_errorOfEvent_62 : decode cX8_errorOfEvent 62 = .ok (.invokevirtual 115, 3) := by decide +kernel
theorem dX8_errorOfEvent_65 : decode cX8_errorOfEvent 65 = .ok (.ireturn, 1) := by decide +kernel
theorem dX8_errorOfEvent_66 : decode cX8_errorOfEvent 66 = .ok (.aload_n 0, 1) := by decide +kernel
theorem dX8_errorOfEvent_67 : decode cX8_errorOfEvent 67 = .ok (.aload_n 0, 1) := by decide +kernel
theorem dX8_errorOfEvent_68 : decode cX8_errorOfEvent 68 = .ok (.getfield 173, 3) := by decide +kernel
theorem dX8_errorOfEvent_71 : decode cX8_errorOfEvent 71 = .ok (.invokevirtual 127, 3) := by decide +kernel
theorem dX8_errorOfEvent_74 : decode cX8_errorOfEvent 74 = .ok (.ireturn, 1) := by decide +kernel
theorem dX8_errorOfEvent_75 : decode cX8_errorOfEvent 75 = .ok (.aload_n 0, 1) := by decide +kernel
theorem dX8_errorOfEvent_76 : decode cX8_errorOfEvent 76 = .ok (.aload_n 0, 1) := by decide +kernel
theorem dX8_errorOfEvent_77 : decode cX8_errorOfEvent 77 = .ok (.getfield 173, 3) := by decide +kernel
theorem dX8_errorOfEvent_80 : decode cX8_errorOfEvent 80 = .ok (.aload_n 0, 1) := by decide +kernel
theorem dX8_errorOfEvent_81 : decode cX8_errorOfEvent 81 = .ok (.getfield 179, 3) := by decide +kernel
theorem dX8_errorOfEvent_84 : decode cX8_errorOfEvent 84 = .ok (.invokevirtual 121, 3) := by decide +kernel
theorem dX8_errorOfEvent_87 : decode cX8_errorOfEvent 87 = .ok (.ireturn, 1) := by decide +kernel
theorem dX8_errorOfEvent_88 : decode cX8_errorOfEvent 88 = .ok (.aload_n 0, 1) := by decide +kernel
theorem dX8_errorOfEvent_89 : decode cX8_errorOfEvent 89 = .ok (.aload_n 0, 1) := by decide +kernel
theorem dX8_errorOfEvent_90 : decode cX8_errorOfEvent 90 = .ok (.getfield 173, 3) := by decide +kernel
theorem dX8_errorOfEvent_93 : decode cX8_errorOfEvent 93 = .ok (.aload_n 0, 1) := by decide +kernel
theorem dX8_errorOfEvent_94 : decode cX8_errorOfEvent 94 = .ok (.getfield 179, 3) := by decide +kernel
theorem dX8_errorOfEvent_97 : decode cX8_errorOfEvent 97 = .ok (.invokevirtual 139, 3) := by decide +kernel
theorem dX8_errorOfEvent_100 : decode cX8_errorOfEvent 100 = .ok (.ireturn, 1) := by decide +kernel
theorem dX8_does_0 : decode cX8_does 0 = .ok (.aload_n 0, 1) := by decide +kernel
theorem dX8_does_1 : decode cX8_does 1 = .ok (.getfield 167, 3) := by decide +kernel
theorem dX8_does_4 : decode cX8_does 4 = .ok (.lookupswitch 84 #[(43, 44), (98, 71), (108, 53), (114, 62)], 44) := by decide +kernel
theorem dX8_does_48 : decode cX8_does 48 = .ok (.aload_n 0, 1) := by decide +kernel
theorem dX8_does_49 : decode cX8_does 49 = .ok (.aload_n 0, 1) := by decide +kernel
theorem dX8_does_50 : decode cX8_does 50 = .ok (.getfield 173, 3) := by decide +kernel
theorem dX8_does_53 : decode cX8_does 53 = .ok (.invokevirtual 102, 3) := by decide +kernel
theorem dX8_does_56 : decode cX8_does 56 = .ok (.ireturn, 1) := by decide +kernel
theorem dX8_does_57 : decode cX8_does 57 = .ok (.aload_n 0, 1) := by decide +kernel
theorem dX8_does_58 : decode cX8_does 58 = .ok (.aload_n 0, 1) := by decide +kernel
theorem dX8_does_59 : decode cX8_does 59 = .ok (.getfield 173, 3) := by decide +kernel
theorem dX8_does_62 : decode cX8_does 62 = .ok (.invokevirtual 118, 3) := by decide +kernel
theorem dX8_does_65 : decode cX8_does 65 = .ok (.ireturn, 1) := by decide +kernel
theorem dX8_does_66 : decode cX8_does 66 = .ok (.aload_n 0, 1) := by decide +kernel
theorem dX8_does_67 : decode cX8_does 67 = .ok (.aload_n 0, 1) := by decide +kernel
theorem dX8_does_68 : decode cX8_does 68 = .ok (.getfield 173, 3) := by decide +kernel
theorem dX8_does_71 : decode cX8_does 71 = .ok (.invokevirtual 130, 3) := by decide +kernel
theorem dX8_does_74 : decode cX8_does 74 = .ok (.ireturn, 1) := by decide +kernel
theorem dX8_does_75 : decode cX8_does 75 = .ok (.aload_n 0, 1) := by decide +kernel
theorem dX8_does_76 : decode cX8_does 76 = .ok (.aload_n 0, 1) := by decide +kernel
theorem dX8_does_77 : decode cX8_does 77 = .ok (.getfield 173, 3) := by decide +kernel
theorem dX8_does_80 : decode cX8_does 80 = .ok (.aload_n 0, 1) := by decide +kernel
theorem dX8_does_81 : decode cX8_does 81 = .ok (.getfield 179, 3) := by decide +kernel
theorem dX8_does_84 : decode cX8_does 84 = .ok (.invokevirtual 124, 3) := by decide +kernel
theorem dX8_does_87 : decode cX8_does 87 = .ok (.ireturn, 1) := by decide +kernel
theorem dX8_does_88 : decode cX8_does 88 = .ok (.aload_n 0, 1) := by decide +kernel
theorem dX8_does_89 : decode cX8_does 89 = .ok (.aload_n 0, 1) := by decide +kernel
theorem dX8_does_90 : decode cX8_does 90 = .ok (.getfield 173, 3) := by decide +kernel
theorem dX8_does_93 : decode cX8_does 93 = .ok (.aload_n 0, 1) := by decide +kernel
theorem dX8_does_94 : decode cX8_does 94 = .ok (.getfield 179, 3) := by decide +kernel
theorem dX8_does_97 : decode cX8_does 97 = .ok (.invokevirtual 142, 3) := by decide +kernel
theorem dX8_does_100 : decode cX8_does 100 = .ok (.ireturn, 1) := by decide +kernel
theorem dX8_readText_0 : decode cX8_readText 0 = .ok (.aload_n 0, 1) := by decide +kernel
theorem dX8_readText_1 : decode cX8_readText 1 = .ok (.iconst 0, 1) := by decide +kernel
theorem dX8_readText_2 : decode cX8_readText 2 = .ok (.putfield 161, 3) := by decide +kernel
theorem dX8_readText_5 : decode cX8_readText 5 = .ok (.aload_n 0, 1) := by decide +kernel
theorem dX8_readText_6 : decode cX8_readText 6 = .ok (.iconst 0, 1) := by decide +kernel
theorem dX8_readText_7 : decode cX8_readText 7 = .ok (.putfield 182, 3) := by decide +kernel
theorem dX8_readText_10 : decode cX8_readText 10 = .ok (.aload_n 0, 1) := by decide +kernel
theorem dX8_readText_11 : decode cX8_readText 11 = .ok (.invokevirtual 185, 3) := by decide +kernel
theorem dX8_readText_14 : decode cX8_readText 14 = .ok (.istore_n 2, 1) := by decide +kernel
theorem dX8_readText_15 : decode cX8_readText 15 = .ok (.iload_n 2, 1) := by decide +kernel
theorem dX8_readText_16 : decode cX8_readText 16 = .ok (.ifCond .eq 69, 3) := by decide +kernel
theorem dX8_readText_19 : decode cX8_readText 19 = .ok (.iload_n 1, 1) := by decide +kernel
theorem dX8_readText_20 : decode cX8_readText 20 = .ok (.ifCond .eq 17, 3) := by decide +kernel
theorem dX8_readText_23 : decode cX8_readText 23 = .ok (.aload_n 0, 1) := by decide +kernel
theorem dX8_readText_24 : decode cX8_readText 24 = .ok (.invokevirtual 188, 3) := by decide +kernel
theorem dX8_readText_27 : decode cX8_readText 27 = .ok (.ifCond .ge 5, 3) := by decide +kernel
theorem dX8_readText_30 : decode cX8_readText 30 = .ok (.iconst 1, 1) := by decide +kernel
theorem dX8_readText_31 : decode cX8_readText 31 = .ok (.ireturn, 1) := by decide +kernel
theorem dX8_readText_32 : decode cX8_readText 32 = .ok (.aload_n 0, 1) := by decide +kernel
theorem dX8_readText_33 : decode cX8_readText 33 = .ok (.invokevirtual 191, 3) := by decide +kernel
theorem dX8_readText_36 : decode cX8_readText 36 = .ok (.pop, 1) := by decide +kernel
theorem dX8_readText_37 : decode cX8_readText 37 = .ok (.aload_n 0, 1) := by decide +kernel
theorem dX8_readText_38 : decode cX8_readText 38 = .ok (.dup, 1) := by decide +kernel
theorem dX8_readText_39 : decode cX8_readText 39 = .ok (.getfield 182, 3) := by decide +kernel
theorem dX8_readText_42 : decode cX8_readText 42 = .ok (.iconst 1, 1) := by decide +kernel
theorem dX8_readText_43 : decode cX8_readText 43 = .ok (.iadd, 1) := by decide +kernel
theorem dX8_readText_44 : decode cX8_readText 44 = .ok (.putfield 182, 3) := by decide +kernel
theorem dX8_readText_47 : decode cX8_readText 47 = .ok (.aload_n 0, 1) := by decide +kernel
theorem dX8_readText_48 : decode cX8_readText 48 = .ok (.getfield 161, 3) := by decide +kernel
theorem dX8_readText_51 : decode cX8_readText 51 = .ok (.aload_n 0, 1) := by decide +kernel
theorem dX8_readText_52 : decode cX8_readText 52 = .ok (.getfield 158, 3) := by decide +kernel
theorem dX8_readText_55 : decode cX8_readText 55 = .ok (.if_icmp .ne 5, 3) := by decide +kernel
theorem dX8_readText_58 : decode cX8_readText 58 = .ok (.iconst 1, 1) := by decide +kernel
theorem dX8_readText_59 : decode cX8_readText 59 = .ok (.ireturn, 1) := by decide +kernel
theorem dX8_readText_60 : decode cX8_readText 60 = .ok (.aload_n 0, 1) := by decide +kernel
theorem dX8_readText_61 : decode cX8_readText 61 = .ok (.bipush 59, 2) := by decide +kernel
theorem dX8_readText_63 : decode cX8_readText 63 = .ok (.invokevirtual 194, 3) := by decide +kernel
theorem dX8_readText_66 : decode cX8_readText 66 = .ok (.ifCond .eq 14, 3) := by decide +kernel
theorem dX8_readText_69 : decode cX8_readText 69 = .ok (.aload_n 0, 1) := by decide +kernel
theorem dX8_readText_70 : decode cX8_readText 70 = .ok (.invokevirtual 185, 3) := by decide +kernel
theorem dX8_readText_73 : decode cX8_readText 73 = .ok (.ifCond .eq 7, 3) := by decide +kernel
theorem dX8_readText_76 : decode cX8_readText 76 = .ok (.iconst 1, 1) := by decide +kernel
theorem dX8_readText_77 : decode cX8_readText 77 = .ok (.goto 4, 3) := by decide +kernel
theorem dX8_readText_80 : decode cX8_readText 80 = .ok (.iconst 0, 1) := by decide +kernel
theorem dX8_readText_81 : decode cX8_readText 81 = .ok (.istore_n 2, 1) := by decide +kernel
theorem dX8_readText_82 : decode cX8_readText 82 = .ok (.goto (-67), 3) := by decide +kernel
theorem dX8_readText_85 : decode cX8_readText 85 = .ok (.iconst 0, 1) := by decide +kernel
theorem dX8_readText_86 : decode cX8_readText 86 = .ok (.ireturn, 1) := by decide +kernel
theorem dX8_fault_0 : decode cX8_fault 0 = .ok (.aload_n 0, 1) := by decide +kernel
theorem dX8_fault_1 : decode cX8_fault 1 = .ok (.iconst 0, 1) := by decide +kernel
theorem dX8_fault_2 : decode cX8_fault 2 = .ok (.invokevirtual 197, 3) := by decide +kernel
theorem dX8_fault_5 : decode cX8_fault 5 = .ok (.ifCond .eq 8, 3) := by decide +kernel
theorem dX8_fault_8 : decode cX8_fault 8 = .ok (.bipush (-5), 2) := by decide +kernel
theorem dX8_fault_10 : decode cX8_fault 10 = .ok (.goto 7, 3) := by decide +kernel
theorem dX8_fault_13 : decode cX8_fault 13 = .ok (.aload_n 0, 1) := by decide +kernel
theorem dX8_fault_14 : decode cX8_fault 14 = .ok (.getfield 161, 3) := by decide +kernel
theorem dX8_fault_17 : decode cX8_fault 17 = .ok (.ireturn, 1) := by decide +kernel
theorem dX8_run_0 : decode cX8_run 0 = .ok (.aload_n 0, 1) := by decide +kernel
theorem dX8_run_1 : decode cX8_run 1 = .ok (.iconst 0, 1) := by decide +kernel
theorem dX8_run_2 : decode cX8_run 2 = .ok (.invokevirtual 197, 3) := by decide +kernel
theorem dX8_run_5 : decode cX8_run 5 = .ok (.ifCond .ne 11, 3) := by decide +kernel
theorem dX8_run_8 : decode cX8_run 8 = .ok (.bipush (-100), 2) := by decide +kernel
theorem dX8_run_10 : decode cX8_run 10 = .ok (.aload_n 0, 1) := by decide +kernel
theorem dX8_run_11 : decode cX8_run 11 = .ok (.getfield 161, 3) := by decide +kernel
theorem dX8_run_14 : decode cX8_run 14 = .ok (.isub, 1) := by decide +kernel
theorem dX8_run_15 : decode cX8_run 15 = .ok (.ireturn, 1) := by decide +kernel
theorem dX8_run_16 : decode cX8_run 16 = .ok (.aload_n 0, 1) := by decide +kernel
theorem dX8_run_17 : decode cX8_run 17 = .ok (.invokevirtual 81, 3) := by decide +kernel
theorem dX8_run_20 : decode cX8_run 20 = .ok (.aload_n 0, 1) := by decide +kernel
theorem dX8_run_21 : decode cX8_run 21 = .ok (.iconst 1, 1) := by decide +kernel
theorem dX8_run_22 : decode cX8_run 22 = .ok (.invokevirtual 197, 3) := by decide +kernel
theorem dX8_run_25 : decode cX8_run 25 = .ok (.ifCond .eq 10, 3) := by decide +kernel
theorem dX8_run_28 : decode cX8_run 28 = .ok (.aload_n 0, 1) := by decide +kernel
theorem dX8_run_29 : decode cX8_run 29 = .ok (.getfield 182, 3) := by decide +kernel
theorem dX8_run_32 : decode cX8_run 32 = .ok (.goto 4, 3) := by decide +kernel
theorem dX8_run_35 : decode cX8_run 35 = .ok (.iconst 0, 1) := by decide +kernel
theorem dX8_run_36 : decode cX8_run 36 = .ok (.ireturn, 1) := by decide +kernel
theorem dX8_undo_0 : decode cX8_undo 0 = .ok (.aload_n 0, 1) := by decide +kernel
theorem dX8_undo_1 : decode cX8_undo 1 = .ok (.getfield 38, 3) := by decide +kernel
theorem dX8_undo_4 : decode cX8_undo 4 = .ok (.ifCond .ne 6, 3) := by decide +kernel
theorem dX8_undo_7 : decode cX8_undo 7 = .ok (.bipush (-5), 2) := by decide +kernel
theorem dX8_undo_9 : decode cX8_undo 9 = .ok (.ireturn, 1) := by decide +kernel
theorem dX8_undo_10 : decode cX8_undo 10 = .ok (.aload_n 0, 1) := by decide +kernel
theorem dX8_undo_11 : decode cX8_undo 11 = .ok (.dup, 1) := by decide +kernel
theorem dX8_undo_12 : decode cX8_undo 12 = .ok (.getfield 38, 3) := by decide +kernel
theorem dX8_undo_15 : decode cX8_undo 15 = .ok (.iconst 1, 1) := by decide +kernel
theorem dX8_undo_16 : decode cX8_undo 16 = .ok (.isub, 1) := by decide +kernel
theorem dX8_undo_17 : decode cX8_undo 17 = .ok (.putfield 38, 3) := by decide +kernel
theorem dX8_undo_20 : decode cX8_undo 20 = .ok (.aload_n 0, 1) := by decide +kernel
theorem dX8_undo_21 : decode cX8_undo 21 = .ok (.getfield 13, 3) := by decide +kernel
theorem dX8_undo_24 : decode cX8_undo 24 = .ok (.sipush 404, 3) := by decide +kernel
theorem dX8_undo_27 : decode cX8_undo 27 = .ok (.aload_n 0, 1) := by decide +kernel
theorem dX8_undo_28 : decode cX8_undo 28 = .ok (.getfield 38, 3) := by decide +kernel
theorem dX8_undo_31 : decode cX8_undo 31 = .ok (.imul, 1) := by decide +kernel
theorem dX8_undo_32 : decode cX8_undo 32 = .ok (.aload_n 0, 1) := by decide +kernel
theorem dX8_undo_33 : decode cX8_undo 33 = .ok (.getfield 7, 3) := by decide +kernel
theorem dX8_undo_36 : decode cX8_undo 36 = .ok (.iconst 0, 1) := by decide +kernel
theorem dX8_undo_37 : decode cX8_undo 37 = .ok (.invokestatic 42, 3) := by decide +kernel
theorem dX8_undo_40 : decode cX8_undo 40 = .ok (.aload_n 0, 1) := by decide +kernel
theorem dX8_undo_41 : decode cX8_undo 41 = .ok (.getfield 38, 3) := by decide +kernel
theorem dX8_undo_44 : decode cX8_undo 44 = .ok (.ireturn, 1) := by decide +kernel
theorem dX8_save_0 : decode cX8_save 0 = .ok (.aload_n 0, 1) := by decide +kernel
theorem dX8_save_1 : decode cX8_save 1 = .ok (.getfield 7, 3) := by decide +kernel
theorem dX8_save_4 : decode cX8_save 4 = .ok (.iconst 0, 1) := by decide +kernel
theorem dX8_save_5 : decode cX8_save 5 = .ok (.aload_n 0, 1) := by decide +kernel
theorem dX8_save_6 : decode cX8_save 6 = .ok (.getfield 16, 3) := by decide +kernel
theorem dX8_save_9 : decode cX8_save 9 = .ok (.iconst 0, 1) := by decide +kernel
theorem dX8_save_10 : decode cX8_save 10 = .ok (.invokestatic 42, 3) := by decide +kernel
theorem dX8_save_13 : decode cX8_save 13 = .ok (.aload_n 0, 1) := by decide +kernel
theorem dX8_save_14 : decode cX8_save 14 = .ok (.iconst 1, 1) := by decide +kernel
theorem dX8_save_15 : decode cX8_save 15 = .ok (.putfield 201, 3) := by decide +kernel
theorem dX8_save_18 : decode cX8_save 18 = .ok (.aload_n 0, 1) := by decide +kernel
theorem dX8_save_19 : decode cX8_save 19 = .ok (.getfield 7, 3) := by decide +kernel
theorem dX8_save_22 : decode cX8_save 22 = .ok (.iconst 0, 1) := by decide +kernel
theorem dX8_save_23 : decode cX8_save 23 = .ok (.iaload, 1) := by decide +kernel
theorem dX8_save_24 : decode cX8_save 24 = .ok (.ireturn, 1) := by decide +kernel
theorem dX8_restore_0 : decode cX8_restore 0 = .ok (.aload_n 0, 1) := by decide +kernel
theorem dX8_restore_1 : decode cX8_restore 1 = .ok (.getfield 201, 3) := by decide +kernel
theorem dX8_restore_4 : decode cX8_restore 4 = .ok (.ifCond .ne 6, 3) := by decide +kernel
theorem dX8_restore_7 : decode cX8_restore 7 = .ok (.bipush (-4), 2) := by decide +kernel
theorem dX8_restore_9 : decode cX8_restore 9 = .ok (.ireturn, 1) := by decide +kernel
theorem dX8_restore_10 : decode cX8_restore 10 = .ok (.aload_n 0, 1) := by decide +kernel
theorem dX8_restore_11 : decode cX8_restore 11 = .ok (.invokevirtual 81, 3) := by decide +kernel
theorem dX8_restore_14 : decode cX8_restore 14 = .ok (.aload_n 0, 1) := by decide +kernel
theorem dX8_restore_15 : decode cX8_restore 15 = .ok (.getfield 16, 3) := by decide +kernel
theorem dX8_restore_18 : decode cX8_restore 18 = .ok (.iconst 0, 1) := by decide +kernel
theorem dX8_restore_19 : decode cX8_restore 19 = .ok (.aload_n 0, 1) := by decide +kernel
theorem dX8_restore_20 : decode cX8_restore 20 = .ok (.getfield 7, 3) := by decide +kernel
theorem dX8_restore_23 : decode cX8_restore 23 = .ok (.iconst 0, 1) := by decide +kernel
theorem dX8_restore_24 : decode cX8_restore 24 = .ok (.invokestatic 42, 3) := by decide +kernel
theorem dX8_restore_27 : decode cX8_restore 27 = .ok (.aload_n 0, 1) := by decide +kernel
theorem dX8_restore_28 : decode cX8_restore 28 = .ok (.getfield 7, 3) := by decide +kernel
theorem dX8_restore_31 : decode cX8_restore 31 = .ok (.iconst 0, 1) := by decide +kernel
theorem dX8_restore_32 : decode cX8_restore 32 = .ok (.iaload, 1) := by decide +kernel
theorem dX8_restore_33 : decode cX8_restore 33 = .ok (.ireturn, 1) := by decide +kernel
theorem dX8_result_0 : decode cX8_result 0 = .ok (.aload_n 0, 1) := by decide +kernel
theorem dX8_result_1 : decode cX8_result 1 = .ok (.iload_n 1, 1) := by decide +kernel
theorem dX8_result_2 : decode cX8_result 2 = .ok (.invokevirtual 205, 3) := by decide +kernel
