theorem dX4_recountRace_47 : decode cX4_recountRace 47 = .ok (.getfield 30, 3) := by decide +kernel
theorem dX4_recountRace_50 : decode cX4_recountRace 50 = .ok (.iload_n 2, 1) := by decide +kernel
theorem dX4_recountRace_51 : decode cX4_recountRace 51 = .ok (.iload_n 3, 1) := by decide +kernel
theorem dX4_recountRace_52 : decode cX4_recountRace 52 = .ok (.iconst 1, 1) := by decide +kernel
theorem dX4_recountRace_53 : decode cX4_recountRace 53 = .ok (.invokevirtual 104, 3) := by decide +kernel
theorem dX4_recountRace_56 : decode cX4_recountRace 56 = .ok (.iinc 2 1, 3) := by decide +kernel
theorem dX4_recountRace_59 : decode cX4_recountRace 59 = .ok (.goto (-52), 3) := by decide +kernel
theorem dX4_recountRace_62 : decode cX4_recountRace 62 = .ok (.return_, 1) := by decide +kernel
theorem dX4_sumUp_0 : decode cX4_sumUp 0 = .ok (.iconst 0, 1) := by decide +kernel
theorem dX4_sumUp_1 : decode cX4_sumUp 1 = .ok (.istore_n 2, 1) := by decide +kernel
theorem dX4_sumUp_2 : decode cX4_sumUp 2 = .ok (.bipush (-5), 2) := by decide +kernel
theorem dX4_sumUp_4 : decode cX4_sumUp 4 = .ok (.istore_n 3, 1) := by decide +kernel
theorem dX4_sumUp_5 : decode cX4_sumUp 5 = .ok (.iconst 0, 1) := by decide +kernel
theorem dX4_sumUp_6 : decode cX4_sumUp 6 = .ok (.istore 4, 2) := by decide +kernel
theorem dX4_sumUp_8 : decode cX4_sumUp 8 = .ok (.iconst 0, 1) := by decide +kernel
theorem dX4_sumUp_9 : decode cX4_sumUp 9 = .ok (.istore 5, 2) := by decide +kernel
theorem dX4_sumUp_11 : decode cX4_sumUp 11 = .ok (.iconst 0, 1) := by decide +kernel
theorem dX4_sumUp_12 : decode cX4_sumUp 12 = .ok (.istore 6, 2) := by decide +kernel
theorem dX4_sumUp_14 : decode cX4_sumUp 14 = .ok (.iload 6, 2) := by decide +kernel
theorem dX4_sumUp_16 : decode cX4_sumUp 16 = .ok (.aload_n 0, 1) := by decide +kernel
theorem dX4_sumUp_17 : decode cX4_sumUp 17 = .ok (.getfield 9, 3) := by decide +kernel
theorem dX4_sumUp_20 : decode cX4_sumUp 20 = .ok (.invokevirtual 95, 3) := by decide +kernel
theorem dX4_sumUp_23 : decode cX4_sumUp 23 = .ok (.if_icmp .ge 40, 3) := by decide +kernel
theorem dX4_sumUp_26 : decode cX4_sumUp 26 = .ok (.aload_n 0, 1) := by decide +kernel
theorem dX4_sumUp_27 : decode cX4_sumUp 27 = .ok (.getfield 24, 3) := by decide +kernel
theorem dX4_sumUp_30 : decode cX4_sumUp 30 = .ok (.iload 6, 2) := by decide +kernel
theorem dX4_sumUp_32 : decode cX4_sumUp 32 = .ok (.iload_n 1, 1) := by decide +kernel
theorem dX4_sumUp_33 : decode cX4_sumUp 33 = .ok (.invokevirtual 46, 3) := by decide +kernel
theorem dX4_sumUp_36 : decode cX4_sumUp 36 = .ok (.istore 5, 2) := by decide +kernel
theorem dX4_sumUp_38 : decode cX4_sumUp 38 = .ok (.iload_n 2, 1) := by decide +kernel
theorem dX4_sumUp_39 : decode cX4_sumUp 39 = .ok (.iload 5, 2) := by decide +kernel
theorem dX4_sumUp_41 : decode cX4_sumUp 41 = .ok (.iadd, 1) := by decide +kernel
theorem dX4_sumUp_42 : decode cX4_sumUp 42 = .ok (.istore_n 2, 1) := by decide +kernel
theorem dX4_sumUp_43 : decode cX4_sumUp 43 = .ok (.iload 5, 2) := by decide +kernel
theorem dX4_sumUp_45 : decode cX4_sumUp 45 = .ok (.iload 4, 2) := by decide +kernel
theorem dX4_sumUp_47 : decode cX4_sumUp 47 = .ok (.if_icmp .lt 10, 3) := by decide +kernel
theorem dX4_sumUp_50 : decode cX4_sumUp 50 = .ok (.iload 5, 2) := by decide +kernel
theorem dX4_sumUp_52 : decode cX4_sumUp 52 = .ok (.istore 4, 2) := by decide +kernel
theorem dX4_sumUp_54 : decode cX4_sumUp 54 = .ok (.iload 6, 2) := by decide +kernel
theorem dX4_sumUp_56 : decode cX4_sumUp 56 = .ok (.istore_n 3, 1) := by decide +kernel
theorem dX4_sumUp_57 : decode cX4_sumUp 57 = .ok (.iinc 6 1, 3) := by decide +kernel
theorem dX4_sumUp_60 : decode cX4_sumUp 60 = .ok (.goto (-46), 3) := by decide +kernel
theorem dX4_sumUp_63 : decode cX4_sumUp 63 = .ok (.aload_n 0, 1) := by decide +kernel
theorem dX4_sumUp_64 : decode cX4_sumUp 64 = .ok (.invokevirtual 107, 3) := by decide +kernel
theorem dX4_sumUp_67 : decode cX4_sumUp 67 = .ok (.istore 6, 2) := by decide +kernel
theorem dX4_sumUp_69 : decode cX4_sumUp 69 = .ok (.aload_n 0, 1) := by decide +kernel
theorem dX4_sumUp_70 : decode cX4_sumUp 70 = .ok (.getfield 27, 3) := by decide +kernel
theorem dX4_sumUp_73 : decode cX4_sumUp 73 = .ok (.iload_n 1, 1) := by decide +kernel
theorem dX4_sumUp_74 : decode cX4_sumUp 74 = .ok (.iconst 0, 1) := by decide +kernel
theorem dX4_sumUp_75 : decode cX4_sumUp 75 = .ok (.iload_n 2, 1) := by decide +kernel
theorem dX4_sumUp_76 : decode cX4_sumUp 76 = .ok (.invokevirtual 52, 3) := by decide +kernel
theorem dX4_sumUp_79 : decode cX4_sumUp 79 = .ok (.aload_n 0, 1) := by decide +kernel
theorem dX4_sumUp_80 : decode cX4_sumUp 80 = .ok (.getfield 27, 3) := by decide +kernel
theorem dX4_sumUp_83 : decode cX4_sumUp 83 = .ok (.iload_n 1, 1) := by decide +kernel
theorem dX4_sumUp_84 : decode cX4_sumUp 84 = .ok (.iconst 1, 1) := by decide +kernel
theorem dX4_sumUp_85 : decode cX4_sumUp 85 = .ok (.iload 6, 2) := by decide +kernel
theorem dX4_sumUp_87 : decode cX4_sumUp 87 = .ok (.ifCond .eq 10, 3) := by decide +kernel
theorem dX4_sumUp_90 : decode cX4_sumUp 90 = .ok (.iload_n 2, 1) := by decide +kernel
theorem dX4_sumUp_91 : decode cX4_sumUp 91 = .ok (.iload 4, 2) := by decide +kernel
theorem dX4_sumUp_93 : decode cX4_sumUp 93 = .ok (.isub, 1) := by decide +kernel
theorem dX4_sumUp_94 : decode cX4_sumUp 94 = .ok (.goto 4, 3) := by decide +kernel
theorem dX4_sumUp_97 : decode cX4_sumUp 97 = .ok (.iload_n 2, 1) := by decide +kernel
theorem dX4_sumUp_98 : decode cX4_sumUp 98 = .ok (.invokevirtual 52, 3) := by decide +kernel
theorem dX4_sumUp_101 : decode cX4_sumUp 101 = .ok (.aload_n 0, 1) := by decide +kernel
theorem dX4_sumUp_102 : decode cX4_sumUp 102 = .ok (.getfield 27, 3) := by decide +kernel
theorem dX4_sumUp_105 : decode cX4_sumUp 105 = .ok (.iload_n 1, 1) := by decide +kernel
theorem dX4_sumUp_106 : decode cX4_sumUp 106 = .ok (.iconst 2, 1) := by decide +kernel
theorem dX4_sumUp_107 : decode cX4_sumUp 107 = .ok (.iload 6, 2) := by decide +kernel
theorem dX4_sumUp_109 : decode cX4_sumUp 109 = .ok (.ifCond .eq 7, 3) := by decide +kernel
theorem dX4_sumUp_112 : decode cX4_sumUp 112 = .ok (.iload_n 3, 1) := by decide +kernel
theorem dX4_sumUp_113 : decode cX4_sumUp 113 = .ok (.goto 5, 3) := by decide +kernel
theorem dX4_sumUp_116 : decode cX4_sumUp 116 = .ok (.bipush (-5), 2) := by decide +kernel
theorem dX4_sumUp_118 : decode cX4_sumUp 118 = .ok (.invokevirtual 52, 3) := by decide +kernel
theorem dX4_sumUp_121 : decode cX4_sumUp 121 = .ok (.aload_n 0, 1) := by decide +kernel
theorem dX4_sumUp_122 : decode cX4_sumUp 122 = .ok (.getfield 27, 3) := by decide +kernel
theorem dX4_sumUp_125 : decode cX4_sumUp 125 = .ok (.iload_n 1, 1) := by decide +kernel
theorem dX4_sumUp_126 : decode cX4_sumUp 126 = .ok (.iconst 3, 1) := by decide +kernel
theorem dX4_sumUp_127 : decode cX4_sumUp 127 = .ok (.iload 5, 2) := by decide +kernel
theorem dX4_sumUp_129 : decode cX4_sumUp 129 = .ok (.invokevirtual 52, 3) := by decide +kernel
theorem dX4_sumUp_132 : decode cX4_sumUp 132 = .ok (.return_, 1) := by decide +kernel
theorem dX4_isDropping_0 : decode cX4_isDropping 0 = .ok (.aload_n 0, 1) := by decide +kernel
theorem dX4_isDropping_1 : decode cX4_isDropping 1 = .ok (.getfield 9, 3) := by decide +kernel
theorem dX4_isDropping_4 : decode cX4_isDropping 4 = .ok (.iconst 2, 1) := by decide +kernel
theorem dX4_isDropping_5 : decode cX4_isDropping 5 = .ok (.invokevirtual 111, 3) := by decide +kernel
theorem dX4_isDropping_8 : decode cX4_isDropping 8 = .ok (.istore_n 1, 1) := by decide +kernel
theorem dX4_isDropping_9 : decode cX4_isDropping 9 = .ok (.iload_n 1, 1) := by decide +kernel
theorem dX4_isDropping_10 : decode cX4_isDropping 10 = .ok (.ifCond .eq 18, 3) := by decide +kernel
theorem dX4_isDropping_13 : decode cX4_isDropping 13 = .ok (.aload_n 0, 1) := by decide +kernel
theorem dX4_isDropping_14 : decode cX4_isDropping 14 = .ok (.getfield 9, 3) := by decide +kernel
theorem dX4_isDropping_17 : decode cX4_isDropping 17 = .ok (.invokevirtual 95, 3) := by decide +kernel
theorem dX4_isDropping_20 : decode cX4_isDropping 20 = .ok (.iload_n 1, 1) := by decide +kernel
theorem dX4_isDropping_21 : decode cX4_isDropping 21 = .ok (.if_icmp .lt 7, 3) := by decide +kernel
theorem dX4_isDropping_24 : decode cX4_isDropping 24 = .ok (.iconst 1, 1) := by decide +kernel
theorem dX4_isDropping_25 : decode cX4_isDropping 25 = .ok (.goto 4, 3) := by decide +kernel
theorem dX4_isDropping_28 : decode cX4_isDropping 28 = .ok (.iconst 0, 1) := by decide +kernel
theorem dX4_isDropping_29 : decode cX4_isDropping 29 = .ok (.ireturn, 1) := by decide +kernel
theorem dX4_sum_0 : decode cX4_sum 0 = .ok (.aload_n 0, 1) := by decide +kernel
theorem dX4_sum_1 : decode cX4_sum 1 = .ok (.getfield 27, 3) := by decide +kernel
theorem dX4_sum_4 : decode cX4_sum 4 = .ok (.iload_n 1, 1) := by decide +kernel
theorem dX4_sum_5 : decode cX4_sum 5 = .ok (.iconst 0, 1) := by decide +kernel
theorem dX4_sum_6 : decode cX4_sum 6 = .ok (.invokevirtual 46, 3) := by decide +kernel
theorem dX4_sum_9 : decode cX4_sum 9 = .ok (.ireturn, 1) := by decide +kernel
theorem dX4_total_0 : decode cX4_total 0 = .ok (.aload_n 0, 1) := by decide +kernel
theorem dX4_total_1 : decode cX4_total 1 = .ok (.getfield 27, 3) := by decide +kernel
theorem dX4_total_4 : decode cX4_total 4 = .ok (.iload_n 1, 1) := by decide +kernel
theorem dX4_total_5 : decode cX4_total 5 = .ok (.iconst 1, 1) := by decide +kernel
theorem dX4_total_6 : decode cX4_total 6 = .ok (.invokevirtual 46, 3) := by decide +kernel
theorem dX4_total_9 : decode cX4_total 9 = .ok (.ireturn, 1) := by decide +kernel
theorem dX4_dropped_0 : decode cX4_dropped 0 = .ok (.aload_n 0, 1) := by decide +kernel
theorem dX4_dropped_1 : decode cX4_dropped 1 = .ok (.getfield 27, 3) := by decide +kernel
theorem dX4_dropped_4 : decode cX4_dropped 4 = .ok (.iload_n 1, 1) := by decide +kernel
theorem dX4_dropped_5 : decode cX4_dropped 5 = .ok (.iconst 2, 1) := by decide +kernel
theorem dX4_dropped_6 : decode cX4_dropped 6 = .ok (.invokevirtual 46, 3) := by decide +kernel
theorem dX4_dropped_9 : decode cX4_dropped 9 = .ok (.ireturn, 1) := by decide +kernel
theorem dX4_firstPlaces_0 : decode cX4_firstPlaces 0 = .ok (.aload_n 0, 1) := by decide +kernel
theorem dX4_firstPlaces_1 : decode cX4_firstPlaces 1 = .ok (.getfield 30, 3) := by decide +kernel
theorem dX4_firstPlaces_4 : decode cX4_firstPlaces 4 = .ok (.iload_n 1, 1) := by decide +kernel
theorem dX4_firstPlaces_5 : decode cX4_firstPlaces 5 = .ok (.iconst 1, 1) := by decide +kernel
theorem dX4_firstPlaces_6 : decode cX4_firstPlaces 6 = .ok (.invokevirtual 46, 3) := by decide +kernel
theorem dX4_firstPlaces_9 : decode cX4_firstPlaces 9 = .ok (.ireturn, 1) := by decide +kernel
theorem dX4_rank_0 : decode cX4_rank 0 = .ok (.iconst 1, 1) := by decide +kernel
theorem dX4_rank_1 : decode cX4_rank 1 = .ok (.istore_n 2, 1) := by decide +kernel
theorem dX4_rank_2 : decode cX4_rank 2 = .ok (.iconst 0, 1) := by decide +kernel
theorem dX4_rank_3 : decode cX4_rank 3 = .ok (.istore_n 3, 1) := by decide +kernel
theorem dX4_rank_4 : decode cX4_rank 4 = .ok (.iload_n 3, 1) := by decide +kernel
theorem dX4_rank_5 : decode cX4_rank 5 = .ok (.aload_n 0, 1) := by decide +kernel
theorem dX4_rank_6 : decode cX4_rank 6 = .ok (.getfield 9, 3) := by decide +kernel
theorem dX4_rank_9 : decode cX4_rank 9 = .ok (.getfield 33, 3) := by decide +kernel
theorem dX4_rank_12 : decode cX4_rank 12 = .ok (.if_icmp .ge 21, 3) := by decide +kernel
theorem dX4_rank_15 : decode cX4_rank 15 = .ok (.aload_n 0, 1) := by decide +kernel
theorem dX4_rank_16 : decode cX4_rank 16 = .ok (.iload_n 3, 1) := by decide +kernel
theorem dX4_rank_17 : decode cX4_rank 17 = .ok (.iload_n 1, 1) := by decide +kernel
theorem dX4_rank_18 : decode cX4_rank 18 = .ok (.invokevirtual 114, 3) := by decide +kernel
theorem dX4_rank_21 : decode cX4_rank 21 = .ok (.ifCond .eq 6, 3) := by decide +kernel
theorem dX4_rank_24 : decode cX4_rank 24 = .ok (.iinc 2 1, 3) := by decide +kernel
theorem dX4_rank_27 : decode cX4_rank 27 = .ok (.iinc 3 1, 3) := by decide +kernel
theorem dX4_rank_30 : decode cX4_rank 30 = .ok (.goto (-26), 3) := by decide +kernel
theorem dX4_rank_33 : decode cX4_rank 33 = .ok (.iload_n 2, 1) := by decide +kernel
theorem dX4_rank_34 : decode cX4_rank 34 = .ok (.ireturn, 1) := by decide +kernel
theorem dX4_isAhead_0 : decode cX4_isAhead 0 = .ok (.aload_n 0, 1) := by decide +kernel
theorem dX4_isAhead_1 : decode cX4_isAhead 1 = .ok (.iload_n 1, 1) := by decide +kernel
theorem dX4_isAhead_2 : decode cX4_isAhead 2 = .ok (.invokevirtual 118, 3) := by decide +kernel
theorem dX4_isAhead_5 : decode cX4_isAhead 5 = .ok (.aload_n 0, 1) := by decide +kernel
theorem dX4_isAhead_6 : decode cX4_isAhead 6 = .ok (.iload_n 2, 1) := by decide +kernel
theorem dX4_isAhead_7 : decode cX4_isAhead 7 = .ok (.invokevirtual 118, 3) := by decide +kernel
theorem dX4_isAhead_10 : decode cX4_isAhead 10 = .ok (.if_icmp .eq 22, 3) := by decide +kernel
theorem dX4_isAhead_13 : decode cX4_isAhead 13 = .ok (.aload_n 0, 1) := by decide +kernel
theorem dX4_isAhead_14 : decode cX4_isAhead 14 = .ok (.iload_n 1, 1) := by decide +kernel
theorem dX4_isAhead_15 : decode cX4_isAhead 15 = .ok (.invokevirtual 118, 3) := by decide +kernel
theorem dX4_isAhead_18 : decode cX4_isAhead 18 = .ok (.aload_n 0, 1) := by decide +kernel
theorem dX4_isAhead_19 : decode cX4_isAhead 19 = .ok (.iload_n 2, 1) := by decide +kernel
theorem dX4_isAhead_20 : decode cX4_isAhead 20 = .ok (.invokevirtual 118, 3) := by decide +kernel
theorem dX4_isAhead_23 : decode cX4_isAhead 23 = .ok (.if_icmp .ge 7, 3) := by decide +kernel
theorem dX4_isAhead_26 : decode cX4_isAhead 26 = .ok (.iconst 1, 1) := by decide +kernel
theorem dX4_isAhead_27 : decode cX4_isAhead 27 = .ok (.goto 4, 3) := by decide +kernel
theorem dX4_isAhead_30 : decode cX4_isAhead 30 = .ok (.iconst 0, 1) := by decide +kernel
theorem dX4_isAhead_31 : decode cX4_isAhead 31 = .ok (.ireturn, 1) := by decide +kernel
theorem dX4_isAhead_32 : decode cX4_isAhead 32 = .ok (.iconst 1, 1) := by decide +kernel
theorem dX4_isAhead_33 : decode cX4_isAhead 33 = .ok (.istore_n 3, 1) := by decide +kernel
theorem dX4_isAhead_34 : decode cX4_isAhead 34 = .ok (.iload_n 3, 1) := by decide +kernel
theorem dX4_isAhead_35 : decode cX4_isAhead 35 = .ok (.bipush 9, 2) := by decide +kernel
theorem dX4_isAhead_37 : decode cX4_isAhead 37 = .ok (.if_icmp .gt 57, 3) := by decide +kernel
theorem dX4_isAhead_40 : decode cX4_isAhead 40 = .ok (.aload_n 0, 1) := by decide +kernel
theorem dX4_isAhead_41 : decode cX4_isAhead 41 = .ok (.getfield 30, 3) := by decide +kernel
theorem dX4_isAhead_44 : decode cX4_isAhead 44 = .ok (.iload_n 1, 1) := by decide +kernel
theorem dX4_isAhead_45 : decode cX4_isAhead 45 = .ok (.iload_n 3, 1) := by decide +kernel
theorem dX4_isAhead_46 : decode cX4_isAhead 46 = .ok (.invokevirtual 46, 3) := by decide +kernel
theorem dX4_isAhead_49 : decode cX4_isAhead 49 = .ok (.aload_n 0, 1) := by decide +kernel
theorem dX4_isAhead_50 : decode cX4_isAhead 50 = .ok (.getfield 30, 3) := by decide +kernel
theorem dX4_isAhead_53 : decode cX4_isAhead 53 = .ok (.iload_n 2, 1) := by decide +kernel
theorem dX4_isAhead_54 : decode cX4_isAhead 54 = .ok (.iload_n 3, 1) := by decide +kernel
theorem dX4_isAhead_55 : decode cX4_isAhead 55 = .ok (.invokevirtual 46, 3) := by decide +kernel
theorem dX4_isAhead_58 : decode cX4_isAhead 58 = .ok (.if_icmp .eq 30, 3) := by decide +kernel
theorem dX4_isAhead_61 : decode cX4_isAhead 61 = .ok (.aload_n 0, 1) := by decide +kernel
theorem dX4_isAhead_62 : decode cX4_isAhead 62 = .ok (.getfield 30, 3) := by decide +kernel
theorem dX4_isAhead_65 : decode cX4_isAhead 65 = .ok (.iload_n 1, 1) := by decide +kernel
theorem dX4_isAhead_66 : decode cX4_isAhead 66 = .ok (.iload_n 3, 1) := by decide +kernel
theorem dX4_isAhead_67 : decode cX4_isAhead 67 = .ok (.invokevirtual 46, 3) := by decide +kernel
theorem dX4_isAhead_70 : decode cX4_isAhead 70 = .ok (.aload_n 0, 1) := by decide +kernel
theorem dX4_isAhead_71 : decode cX4_isAhead 71 = .ok (.getfield 30, 3) := by decide +kernel
theorem dX4_isAhead_74 : decode cX4_isAhead 74 = .ok (.iload_n 2, 1) := by decide +kernel
theorem dX4_isAhead_75 : decode cX4_isAhead 75 = .ok (.iload_n 3, 1) := by decide +kernel
theorem dX4_isAhead_76 : decode cX4_isAhead 76 = .ok (.invokevirtual 46, 3) := by decide +kernel
theorem dX4_isAhead_79 : decode cX4_isAhead 79 = .ok (.if_icmp .le 7, 3) := by decide +kernel
theorem dX4_isAhead_82 : decode cX4_isAhead 82 = .ok (.iconst 1, 1) := by decide +kernel
theorem dX4_isAhead_83 : decode cX4_isAhead 83 = .ok (.goto 4, 3) := by decide +kernel
theorem dX4_isAhead_86 : decode cX4_isAhead 86 = .ok (.iconst 0, 1) := by decide +kernel
theorem dX4_isAhead_87 : decode cX4_isAhead 87 = .ok (.ireturn, 1) := by decide +kernel
theorem dX4_isAhead_88 : decode cX4_isAhead 88 = .ok (.iinc 3 1, 3) := by decide +kernel
theorem dX4_isAhead_91 : decode cX4_isAhead 91 = .ok (.goto (-57), 3) := by decide +kernel
theorem dX4_isAhead_94 : decode cX4_isAhead 94 = .ok (.aload_n 0, 1) := by decide +kernel
theorem dX4_isAhead_95 : decode cX4_isAhead 95 = .ok (.getfield 27, 3) := by decide +kernel
theorem dX4_isAhead_98 : decode cX4_isAhead 98 = .ok (.iload_n 1, 1) := by decide +kernel
theorem dX4_isAhead_99 : decode cX4_isAhead 99 = .ok (.iconst 3, 1) := by decide +kernel
theorem dX4_isAhead_100 : decode cX4_isAhead 100 = .ok (.invokevirtual 46, 3) := by decide +kernel
theorem dX4_isAhead_103 : decode cX4_isAhead 103 = .ok (.aload_n 0, 1) := by decide +kernel
theorem dX4_isAhead_104 : decode cX4_isAhead 104 = .ok (.getfield 27, 3) := by decide +kernel
theorem dX4_isAhead_107 : decode cX4_isAhead 107 = .ok (.iload_n 2, 1) := by decide +kernel
theorem dX4_isAhead_108 : decode cX4_isAhead 108 = .ok (.iconst 3, 1) := by decide +kernel
theorem dX4_isAhead_109 : decode cX4_isAhead 109 = .ok (.invokevirtual 46, 3) := by decide +kernel
theorem dX4_isAhead_112 : decode cX4_isAhead 112 = .ok (.if_icmp .eq 30, 3) := by decide +kernel
theorem dX4_isAhead_115 : decode cX4_isAhead 115 = .ok (.aload_n 0, 1) := by decide +kernel
theorem dX4_isAhead_116 : decode cX4_isAhead 116 = .ok (.getfield 27, 3) := by decide +kernel
theorem dX4_isAhead_119 : decode cX4_isAhead 119 = .ok (.iload_n 1, 1) := by decide +kernel
theorem dX4_isAhead_120 : decode cX4_isAhead 120 = .ok (.iconst 3, 1) := by decide +kernel
theorem dX4_isAhead_121 : decode cX4_isAhead 121 = .ok (.invokevirtual 46, 3) := by decide +kernel
theorem dX4_isAhead_124 : decode cX4_isAhead 124 = .ok (.aload_n 0, 1) := by decide +kernel
theorem dX4_isAhead_125 : decode cX4_isAhead 125 = .ok (.getfield 27, 3) := by decide +kernel
theorem dX4_isAhead_128 : decode cX4_isAhead 128 = .ok (.iload_n 2, 1) := by decide +kernel
theorem dX4_isAhead_129 : decode cX4_isAhead 129 = .ok (.iconst 3, 1) := by decide +kernel
theorem dX4_isAhead_130 : decode cX4_isAhead 130 = .ok (.invokevirtual 46, 3) := by decide +kernel
theorem dX4_isAhead_133 : decode cX4_isAhead 133 = .ok (.if_icmp .ge 7, 3) := by decide +kernel
theorem dX4_isAhead_136 : decode cX4_isAhead 136 = .ok (.iconst 1, 1) := by decide +kernel
theorem dX4_isAhead_137 : decode cX4_isAhead 137 = .ok (.goto 4, 3) := by decide +kernel
theorem dX4_isAhead_140 : decode cX4_isAhead 140 = .ok (.iconst 0, 1) := by decide +kernel
theorem dX4_isAhead_141 : decode cX4_isAhead 141 = .ok (.ireturn, 1) := by decide +kernel
theorem dX4_isAhead_142 : decode cX4_isAhead 142 = .ok (.iload_n 1, 1) := by decide +kernel
theorem dX4_isAhead_143 : decode cX4_isAhead 143 = .ok (.iload_n 2, 1) := by decide +kernel
theorem dX4_isAhead_144 : decode cX4_isAhead 144 = .ok (.if_icmp .ge 7, 3) := by decide +kernel
theorem dX4_isAhead_147 : decode cX4_isAhead 147 = .ok (.iconst 1, 1) := by decide +kernel
theorem dX4_isAhead_148 : decode cX4_isAhead 148 = .ok (.goto 4, 3) := by decide +kernel
theorem dX4_isAhead_151 : decode cX4_isAhead 151 = .ok (.iconst 0, 1) := by decide +kernel
theorem dX4_isAhead_152 : decode cX4_isAhead 152 = .ok (.ireturn, 1) := by decide +kernel
theorem dX5_init_0 : decode cX5_init 0 = .ok (.aload_n 0, 1) := by decide +kernel
theorem dX5_init_1 : decode cX5_init 1 = .ok (.invokespecial 3, 3) := by decide +kernel
theorem dX5_init_4 : decode cX5_init 4 = .ok (.aload_n 0, 1) := by decide +kernel
theorem dX5_init_5 : decode cX5_init 5 = .ok (.new 9, 3) := by decide +kernel
theorem dX5_init_8 : decode cX5_init 8 = .ok (.dup, 1) := by decide +kernel
theorem dX5_init_9 : decode cX5_init 9 = .ok (.bipush 9, 2) := by decide +kernel
theorem dX5_init_11 : decode cX5_init 11 = .ok (.iconst 1, 1) := by decide +kernel
theorem dX5_init_12 : decode cX5_init 12 = .ok (.invokespecial 11, 3) := by decide +kernel
theorem dX5_init_15 : decode cX5_init 15 = .ok (.putfield 14, 3) := by decide +kernel
theorem dX5_init_18 : decode cX5_init 18 = .ok (.aload_n 0, 1) := by decide +kernel
theorem dX5_init_19 : decode cX5_init 19 = .ok (.new 9, 3) := by decide +kernel
theorem dX5_init_22 : decode cX5_init 22 = .ok (.dup, 1) := by decide +kernel
theorem dX5_init_23 : decode cX5_init 23 = .ok (.iconst 3, 1) := by decide +kernel
theorem dX5_init_24 : decode cX5_init 24 = .ok (.iconst 1, 1) := by decide +kernel
theorem dX5_init_25 : decode cX5_init 25 = .ok (.invokespecial 11, 3) := by decide +kernel
theorem dX5_init_28 : decode cX5_init 28 = .ok (.putfield 20, 3) := by decide +kernel
theorem dX5_init_31 : decode cX5_init 31 = .ok (.aload_n 0, 1) := by decide +kernel
theorem dX5_init_32 : decode cX5_init 32 = .ok (.new 9, 3) := by decide +kernel
theorem dX5_init_35 : decode cX5_init 35 = .ok (.dup, 1) := by decide +kernel
theorem dX5_init_36 : decode cX5_init 36 = .ok (.bipush 6, 2) := by decide +kernel
theorem dX5_init_38 : decode cX5_init 38 = .ok (.iconst 3, 1) := by decide +kernel
theorem dX5_init_39 : decode cX5_init 39 = .ok (.invokespecial 11, 3) := by decide +kernel
theorem dX5_init_42 : decode cX5_init 42 = .ok (.putfield 23, 3) := by decide +kernel
theorem dX5_init_45 : decode cX5_init 45 = .ok (.aload_n 0, 1) := by decide +kernel
theorem dX5_init_46 : decode cX5_init 46 = .ok (.new 9, 3) := by decide +kernel
theorem dX5_init_49 : decode cX5_init 49 = .ok (.dup, 1) := by decide +kernel
theorem dX5_init_50 : decode cX5_init 50 = .ok (.bipush 54, 2) := by decide +kernel
theorem dX5_init_52 : decode cX5_init 52 = .ok (.bipush 6, 2) := by decide +kernel
theorem dX5_init_54 : decode cX5_init 54 = .ok (.invokespecial 11, 3) := by decide +kernel
theorem dX5_init_57 : decode cX5_init 57 = .ok (.putfield 26, 3) := by decide +kernel
theorem dX5_init_60 : decode cX5_init 60 = .ok (.aload_n 0, 1) := by decide +kernel
theorem dX5_init_61 : decode cX5_init 61 = .ok (.new 9, 3) := by decide +kernel
theorem dX5_init_64 : decode cX5_init 64 = .ok (.dup, 1) := by decide +kernel
theorem dX5_init_65 : decode cX5_init 65 = .ok (.bipush 10, 2) := by decide +kernel
theorem dX5_init_67 : decode cX5_init 67 = .ok (.iconst 4, 1) := by decide +kernel
theorem dX5_init_68 : decode cX5_init 68 = .ok (.invokespecial 11, 3) := by decide +kernel
theorem dX5_init_71 : decode cX5_init 71 = .ok (.putfield 29, 3) := by decide +kernel
theorem dX5_init_74 : decode cX5_init 74 = .ok (.iconst 0, 1) := by decide +kernel
theorem dX5_init_75 : decode cX5_init 75 = .ok (.istore_n 1, 1) := by decide +kernel
theorem dX5_init_76 : decode cX5_init 76 = .ok (.iload_n 1, 1) := by decide +kernel
theorem dX5_init_77 : decode cX5_init 77 = .ok (.getstatic 32, 3) := by decide +kernel
theorem dX5_init_80 : decode cX5_init 80 = .ok (.arraylength, 1) := by decide +kernel
theorem dX5_init_81 : decode cX5_init 81 = .ok (.if_icmp .ge 23, 3) := by decide +kernel
theorem dX5_init_84 : decode cX5_init 84 = .ok (.aload_n 0, 1) := by decide +kernel
theorem dX5_init_85 : decode cX5_init 85 = .ok (.getfield 20, 3) := by decide +kernel
theorem dX5_init_88 : decode cX5_init 88 = .ok (.iload_n 1, 1) := by decide +kernel
theorem dX5_init_89 : decode cX5_init 89 = .ok (.iconst 0, 1) := by decide +kernel
theorem dX5_init_90 : decode cX5_init 90 = .ok (.getstatic 32, 3) := by decide +kernel
theorem dX5_init_93 : decode cX5_init 93 = .ok (.iload_n 1, 1) := by decide +kernel
theorem dX5_init_94 : decode cX5_init 94 = .ok (.iaload, 1) := by decide +kernel
theorem dX5_init_95 : decode cX5_init 95 = .ok (.invokevirtual 36, 3) := by decide +kernel
theorem dX5_init_98 : decode cX5_init 98 = .ok (.iinc 1 1, 3) := by decide +kernel
theorem dX5_init_101 : decode cX5_init 101 = .ok (.goto (-25), 3) := by decide +kernel
theorem dX5_init_104 : decode cX5_init 104 = .ok (.return_, 1) := by decide +kernel
theorem dX5_copyFrom_0 : decode cX5_copyFrom 0 = .ok (.aload_n 0, 1) := by decide +kernel
theorem dX5_copyFrom_1 : decode cX5_copyFrom 1 = .ok (.aload_n 1, 1) := by decide +kernel
theorem dX5_copyFrom_2 : decode cX5_copyFrom 2 = .ok (.getfield 40, 3) := by decide +kernel
theorem dX5_copyFrom_5 : decode cX5_copyFrom 5 = .ok (.putfield 40, 3) := by decide +kernel
theorem dX5_copyFrom_8 : decode cX5_copyFrom 8 = .ok (.aload_n 0, 1) := by decide +kernel
theorem dX5_copyFrom_9 : decode cX5_copyFrom 9 = .ok (.aload_n 1, 1) := by decide +kernel
theorem dX5_copyFrom_10 : decode cX5_copyFrom 10 = .ok (.getfield 44, 3) := by decide +kernel
theorem dX5_copyFrom_13 : decode cX5_copyFrom 13 = .ok (.putfield 44, 3) := by decide +kernel
theorem dX5_copyFrom_16 : decode cX5_copyFrom 16 = .ok (.aload_n 0, 1) := by decide +kernel
theorem dX5_copyFrom_17 : decode cX5_copyFrom 17 = .ok (.aload_n 1, 1) := by decide +kernel
theorem dX5_copyFrom_18 : decode cX5_copyFrom 18 = .ok (.getfield 47, 3) := by decide +kernel
theorem dX5_copyFrom_21 : decode cX5_copyFrom 21 = .ok (.putfield 47, 3) := by decide +kernel
theorem dX5_copyFrom_24 : decode cX5_copyFrom 24 = .ok (.aload_n 0, 1) := by decide +kernel
theorem dX5_copyFrom_25 : decode cX5_copyFrom 25 = .ok (.aload_n 1, 1) := by decide +kernel
theorem dX5_copyFrom_26 : decode cX5_copyFrom 26 = .ok (.getfield 50, 3) := by decide +kernel
theorem dX5_copyFrom_29 : decode cX5_copyFrom 29 = .ok (.putfield 50, 3) := by decide +kernel
theorem dX5_copyFrom_32 : decode cX5_copyFrom 32 = .ok (.aload_n 0, 1) := by decide +kernel
theorem dX5_copyFrom_33 : decode cX5_copyFrom 33 = .ok (.aload_n 1, 1) := by decide +kernel
theorem dX5_copyFrom_34 : decode cX5_copyFrom 34 = .ok (.getfield 53, 3) := by decide +kernel
theorem dX5_copyFrom_37 : decode cX5_copyFrom 37 = .ok (.putfield 53, 3) := by decide +kernel
theorem dX5_copyFrom_40 : decode cX5_copyFrom 40 = .ok (.aload_n 0, 1) := by decide +kernel
theorem dX5_copyFrom_41 : decode cX5_copyFrom 41 = .ok (.getfield 14, 3) := by decide +kernel
theorem dX5_copyFrom_44 : decode cX5_copyFrom 44 = .ok (.aload_n 1, 1) := by decide +kernel
theorem dX5_copyFrom_45 : decode cX5_copyFrom 45 = .ok (.getfield 14, 3) := by decide +kernel
theorem dX5_copyFrom_48 : decode cX5_copyFrom 48 = .ok (.invokevirtual 56, 3) := by decide +kernel
theorem dX5_copyFrom_51 : decode cX5_copyFrom 51 = .ok (.aload_n 0, 1) := by decide +kernel
theorem dX5_copyFrom_52 : decode cX5_copyFrom 52 = .ok (.getfield 20, 3) := by decide +kernel
theorem dX5_copyFrom_55 : decode cX5_copyFrom 55 = .ok (.aload_n 1, 1) := by decide +kernel
theorem dX5_copyFrom_56 : decode cX5_copyFrom 56 = .ok (.getfield 20, 3) := by decide +kernel
theorem dX5_copyFrom_59 : decode cX5_copyFrom 59 = .ok (.invokevirtual 56, 3) := by decide +kernel
theorem dX5_copyFrom_62 : decode cX5_copyFrom 62 = .ok (.aload_n 0, 1) := by decide +kernel
theorem dX5_copyFrom_63 : decode cX5_copyFrom 63 = .ok (.getfield 23, 3) := by decide +kernel
theorem dX5_copyFrom_66 : decode cX5_copyFrom 66 = .ok (.aload_n 1, 1) := by decide +kernel
theorem dX5_copyFrom_67 : decode cX5_copyFrom 67 = .ok (.getfield 23, 3) := by decide +kernel
theorem dX5_copyFrom_70 : decode cX5_copyFrom 70 = .ok (.invokevirtual 56, 3) := by decide +kernel
theorem dX5_copyFrom_73 : decode cX5_copyFrom 73 = .ok (.aload_n 0, 1) := by decide +kernel
theorem dX5_copyFrom_74 : decode cX5_copyFrom 74 = .ok (.getfield 26, 3) := by decide +kernel
theorem dX5_copyFrom_77 : decode cX5_copyFrom 77 = .ok (.aload_n 1, 1) := by decide +kernel
theorem dX5_copyFrom_78 : decode cX5_copyFrom 78 = .ok (.getfield 26, 3) := by decide +kernel
theorem dX5_copyFrom_81 : decode cX5_copyFrom 81 = .ok (.invokevirtual 56, 3) := by decide +kernel
theorem dX5_copyFrom_84 : decode cX5_copyFrom 84 = .ok (.aload_n 0, 1) := by decide +kernel
theorem dX5_copyFrom_85 : decode cX5_copyFrom 85 = .ok (.getfield 29, 3) := by decide +kernel
theorem dX5_copyFrom_88 : decode cX5_copyFrom 88 = .ok (.aload_n 1, 1) := by decide +kernel
theorem dX5_copyFrom_89 : decode cX5_copyFrom 89 = .ok (.getfield 29, 3) := by decide +kernel
theorem dX5_copyFrom_92 : decode cX5_copyFrom 92 = .ok (.invokevirtual 56, 3) := by decide +kernel
theorem dX5_copyFrom_95 : decode cX5_copyFrom 95 = .ok (.return_, 1) := by decide +kernel
theorem dX5_hasBoat_0 : decode cX5_hasBoat 0 = .ok (.iload_n 1, 1) := by decide +kernel
theorem dX5_hasBoat_1 : decode cX5_hasBoat 1 = .ok (.ifCond .lt 15, 3) := by decide +kernel
theorem dX5_hasBoat_4 : decode cX5_hasBoat 4 = .ok (.iload_n 1, 1) := by decide +kernel
theorem dX5_hasBoat_5 : decode cX5_hasBoat 5 = .ok (.aload_n 0, 1) := by decide +kernel
theorem dX5_hasBoat_6 : decode cX5_hasBoat 6 = .ok (.getfield 44, 3) := by decide +kernel
theorem dX5_hasBoat_9 : decode cX5_hasBoat 9 = .ok (.if_icmp .ge 7, 3) := by decide +kernel
theorem dX5_hasBoat_12 : decode cX5_hasBoat 12 = .ok (.iconst 1, 1) := by decide +kernel
theorem dX5_hasBoat_13 : decode cX5_hasBoat 13 = .ok (.goto 4, 3) := by decide +kernel
theorem dX5_hasBoat_16 : decode cX5_hasBoat 16 = .ok (.iconst 0, 1) := by decide +kernel
theorem dX5_hasBoat_17 : decode cX5_hasBoat 17 = .ok (.ireturn, 1) := by decide +kernel
theorem dX5_hasRace_0 : decode cX5_hasRace 0 = .ok (.iload_n 1, 1) := by decide +kernel
theorem dX5_hasRace_1 : decode cX5_hasRace 1 = .ok (.ifCond .lt 15, 3) := by decide +kernel
theorem dX5_hasRace_4 : decode cX5_hasRace 4 = .ok (.iload_n 1, 1) := by decide +kernel
theorem dX5_hasRace_5 : decode cX5_hasRace 5 = .ok (.aload_n 0, 1) := by decide +kernel
theorem dX5_hasRace_6 : decode cX5_hasRace 6 = .ok (.getfield 47, 3) := by decide +kernel
theorem dX5_hasRace_9 : decode cX5_hasRace 9 = .ok (.if_icmp .ge 7, 3) := by decide +kernel
theorem dX5_hasRace_12 : decode cX5_hasRace 12 = .ok (.iconst 1, 1) := by decide +kernel
theorem dX5_hasRace_13 : decode cX5_hasRace 13 = .ok (.goto 4, 3) := by decide +kernel
theorem dX5_hasRace_16 : decode cX5_hasRace 16 = .ok (.iconst 0, 1) := by decide +kernel
theorem dX5_hasRace_17 : decode cX5_hasRace 17 = .ok (.ireturn, 1) := by decide +kernel
theorem dX5_hasProtest_0 : decode cX5_hasProtest 0 = .ok (.iload_n 1, 1) := by decide +kernel
theorem dX5_hasProtest_1 : decode cX5_hasProtest 1 = .ok (.ifCond .lt 15, 3) := by decide +kernel
theorem dX5_hasProtest_4 : decode cX5_hasProtest 4 = .ok (.iload_n 1, 1) := by decide +kernel
theorem dX5_hasProtest_5 : decode cX5_hasProtest 5 = .ok (.aload_n 0, 1) := by decide +kernel
theorem dX5_hasProtest_6 : decode cX5_hasProtest 6 = .ok (.getfield 53, 3) := by decide +kernel
theorem dX5_hasProtest_9 : decode cX5_hasProtest 9 = .ok (.if_icmp .ge 7, 3) := by decide +kernel
theorem dX5_hasProtest_12 : decode cX5_hasProtest 12 = .ok (.iconst 1, 1) := by decide +kernel
theorem dX5_hasProtest_13 : decode cX5_hasProtest 13 = .ok (.goto 4, 3) := by decide +kernel
theorem dX5_hasProtest_16 : decode cX5_hasProtest 16 = .ok (.iconst 0, 1) := by decide +kernel
theorem dX5_hasProtest_17 : decode cX5_hasProtest 17 = .ok (.ireturn, 1) := by decide +kernel
theorem dX5_isPrepared_0 : decode cX5_isPrepared 0 = .ok (.aload_n 0, 1) := by decide +kernel
theorem dX5_isPrepared_1 : decode cX5_isPrepared 1 = .ok (.getfield 50, 3) := by decide +kernel
theorem dX5_isPrepared_4 : decode cX5_isPrepared 4 = .ok (.iconst 1, 1) := by decide +kernel
theorem dX5_isPrepared_5 : decode cX5_isPrepared 5 = .ok (.if_icmp .ne 7, 3) := by decide +kernel
theorem dX5_isPrepared_8 : decode cX5_isPrepared 8 = .ok (.iconst 1, 1) := by decide +kernel
theorem dX5_isPrepared_9 : decode cX5_isPrepared 9 = .ok (.goto 4, 3) := by decide +kernel
theorem dX5_isPrepared_12 : decode cX5_isPrepared 12 = .ok (.iconst 0, 1) := by decide +kernel
theorem dX5_isPrepared_13 : decode cX5_isPrepared 13 = .ok (.ireturn, 1) := by decide +kernel
theorem dX5_closedRaces_0 : decode cX5_closedRaces 0 = .ok (.aload_n 0, 1) := by decide +kernel
theorem dX5_closedRaces_1 : decode cX5_closedRaces 1 = .ok (.getfield 50, 3) := by decide +kernel
theorem dX5_closedRaces_4 : decode cX5_closedRaces 4 = .ok (.iconst 1, 1) := by decide +kernel
theorem dX5_closedRaces_5 : decode cX5_closedRaces 5 = .ok (.if_icmp .ne 12, 3) := by decide +kernel
theorem dX5_closedRaces_8 : decode cX5_closedRaces 8 = .ok (.aload_n 0, 1) := by decide +kernel
theorem dX5_closedRaces_9 : decode cX5_closedRaces 9 = .ok (.getfield 47, 3) := by decide +kernel
theorem dX5_closedRaces_12 : decode cX5_closedRaces 12 = .ok (.iconst 1, 1) := by decide +kernel
theorem dX5_closedRaces_13 : decode cX5_closedRaces 13 = .ok (.isub, 1) := by decide +kernel
theorem dX5_closedRaces_14 : decode cX5_closedRaces 14 = .ok (.goto 7, 3) := by decide +kernel
theorem dX5_closedRaces_17 : decode cX5_closedRaces 17 = .ok (.aload_n 0, 1) := by decide +kernel
theorem dX5_closedRaces_18 : decode cX5_closedRaces 18 = .ok (.getfield 47, 3) := by decide +kernel
theorem dX5_closedRaces_21 : decode cX5_closedRaces 21 = .ok (.ireturn, 1) := by decide +kernel
theorem dX5_isClosed_0 : decode cX5_isClosed 0 = .ok (.iload_n 1, 1) := by decide +kernel
theorem dX5_isClosed_1 : decode cX5_isClosed 1 = .ok (.ifCond .lt 15, 3) := by decide +kernel
theorem dX5_isClosed_4 : decode cX5_isClosed 4 = .ok (.iload_n 1, 1) := by decide +kernel
theorem dX5_isClosed_5 : decode cX5_isClosed 5 = .ok (.aload_n 0, 1) := by decide +kernel
theorem dX5_isClosed_6 : decode cX5_isClosed 6 = .ok (.invokevirtual 60, 3) := by decide +kernel
theorem dX5_isClosed_9 : decode cX5_isClosed 9 = .ok (.if_icmp .ge 7, 3) := by decide +kernel
theorem dX5_isClosed_12 : decode cX5_isClosed 12 = .ok (.iconst 1, 1) := by decide +kernel
theorem dX5_isClosed_13 : decode cX5_isClosed 13 = .ok (.goto 4, 3) := by decide +kernel
theorem dX5_isClosed_16 : decode cX5_isClosed 16 = .ok (.iconst 0, 1) := by decide +kernel
theorem dX5_isClosed_17 : decode cX5_isClosed 17 = .ok (.ireturn, 1) := by decide +kernel
theorem dX5_latestRace_0 : decode cX5_latestRace 0 = .ok (.aload_n 0, 1) := by decide +kernel
theorem dX5_latestRace_1 : decode cX5_latestRace 1 = .ok (.getfield 47, 3) := by decide +kernel
theorem dX5_latestRace_4 : decode cX5_latestRace 4 = .ok (.iconst 1, 1) := by decide +kernel
theorem dX5_latestRace_5 : decode cX5_latestRace 5 = .ok (.isub, 1) := by decide +kernel
theorem dX5_latestRace_6 : decode cX5_latestRace 6 = .ok (.ireturn, 1) := by decide +kernel
theorem dX5_start_0 : decode cX5_start 0 = .ok (.aload_n 0, 1) := by decide +kernel
theorem dX5_start_1 : decode cX5_start 1 = .ok (.getfield 23, 3) := by decide +kernel
theorem dX5_start_4 : decode cX5_start 4 = .ok (.aload_n 0, 1) := by decide +kernel
theorem dX5_start_5 : decode cX5_start 5 = .ok (.getfield 47, 3) := by decide +kernel
theorem dX5_start_8 : decode cX5_start 8 = .ok (.iconst 1, 1) := by decide +kernel
theorem dX5_start_9 : decode cX5_start 9 = .ok (.isub, 1) := by decide +kernel
theorem dX5_start_10 : decode cX5_start 10 = .ok (.iconst 2, 1) := by decide +kernel
theorem dX5_start_11 : decode cX5_start 11 = .ok (.invokevirtual 64, 3) := by decide +kernel
theorem dX5_start_14 : decode cX5_start 14 = .ok (.ireturn, 1) := by decide +kernel
theorem dX5_isStarted_0 : decode cX5_isStarted 0 = .ok (.aload_n 0, 1) := by decide +kernel
theorem dX5_isStarted_1 : decode cX5_isStarted 1 = .ok (.getfield 40, 3) := by decide +kernel
theorem dX5_isStarted_4 : decode cX5_isStarted 4 = .ok (.aload_n 0, 1) := by decide +kernel
theorem dX5_isStarted_5 : decode cX5_isStarted 5 = .ok (.invokevirtual 68, 3) := by decide +kernel
theorem dX5_isStarted_8 : decode cX5_isStarted 8 = .ok (.if_icmp .lt 7, 3) := by decide +kernel
theorem dX5_isStarted_11 : decode cX5_isStarted 11 = .ok (.iconst 1, 1) := by decide +kernel
theorem dX5_isStarted_12 : decode cX5_isStarted 12 = .ok (.goto 4, 3) := by decide +kernel
theorem dX5_isStarted_15 : decode cX5_isStarted 15 = .ok (.iconst 0, 1) := by decide +kernel
theorem dX5_isStarted_16 : decode cX5_isStarted 16 = .ok (.ireturn, 1) := by decide +kernel
theorem dX5_setting_0 : decode cX5_setting 0 = .ok (.aload_n 0, 1) := by decide +kernel
theorem dX5_setting_1 : decode cX5_setting 1 = .ok (.getfield 20, 3) := by decide +kernel
theorem dX5_setting_4 : decode cX5_setting 4 = .ok (.iload_n 1, 1) := by decide +kernel
theorem dX5_setting_5 : decode cX5_setting 5 = .ok (.iconst 0, 1) := by decide +kernel
theorem dX5_setting_6 : decode cX5_setting 6 = .ok (.invokevirtual 64, 3) := by decide +kernel
theorem dX5_setting_9 : decode cX5_setting 9 = .ok (.ireturn, 1) := by decide +kernel
theorem dX5_row_0 : decode cX5_row 0 = .ok (.iload_n 1, 1) := by decide +kernel
theorem dX5_row_1 : decode cX5_row 1 = .ok (.bipush 9, 2) := by decide +kernel
theorem dX5_row_3 : decode cX5_row 3 = .ok (.imul, 1) := by decide +kernel
theorem dX5_row_4 : decode cX5_row 4 = .ok (.iload_n 2, 1) := by decide +kernel
theorem dX5_row_5 : decode cX5_row 5 = .ok (.iadd, 1) := by decide +kernel
theorem dX5_row_6 : decode cX5_row 6 = .ok (.ireturn, 1) := by decide +kernel
theorem dX5_latestEntry_0 : decode cX5_latestEntry 0 = .ok (.aload_n 0, 1) := by decide +kernel
theorem dX5_latestEntry_1 : decode cX5_latestEntry 1 = .ok (.getfield 26, 3) := by decide +kernel
theorem dX5_latestEntry_4 : decode cX5_latestEntry 4 = .ok (.aload_n 0, 1) := by decide +kernel
theorem dX5_latestEntry_5 : decode cX5_latestEntry 5 = .ok (.aload_n 0, 1) := by decide +kernel
theorem dX5_latestEntry_6 : decode cX5_latestEntry 6 = .ok (.getfield 47, 3) := by decide +kernel
theorem dX5_latestEntry_9 : decode cX5_latestEntry 9 = .ok (.iconst 1, 1) := by decide +kernel
theorem dX5_latestEntry_10 : decode cX5_latestEntry 10 = .ok (.isub, 1) := by decide +kernel
theorem dX5_latestEntry_11 : decode cX5_latestEntry 11 = .ok (.iload_n 1, 1) := by decide +kernel
theorem dX5_latestEntry_12 : decode cX5_latestEntry 12 = .ok (.invokevirtual 71, 3) := by decide +kernel
theorem dX5_latestEntry_15 : decode cX5_latestEntry 15 = .ok (.iload_n 2, 1) := by decide +kernel
theorem dX5_latestEntry_16 : decode cX5_latestEntry 16 = .ok (.invokevirtual 64, 3) := by decide +kernel
theorem dX5_latestEntry_19 : decode cX5_latestEntry 19 = .ok (.ireturn, 1) := by decide +kernel
theorem dX5_putLatestEntry_0 : decode cX5_putLatestEntry 0 = .ok (.aload_n 0, 1) := by decide +kernel
theorem dX5_putLatestEntry_1 : decode cX5_putLatestEntry 1 = .ok (.getfield 26, 3) := by decide +kernel
theorem dX5_putLatestEntry_4 : decode cX5_putLatestEntry 4 = .ok (.aload_n 0, 1) := by decide +kernel
theorem dX5_putLatestEntry_5 : decode cX5_putLatestEntry 5 = .ok (.aload_n 0, 1) := by decide +kernel
theorem dX5_putLatestEntry_6 : decode cX5_putLatestEntry 6 = .ok (.getfield 47, 3) := by decide +kernel
theorem dX5_putLatestEntry_9 : decode cX5_putLatestEntry 9 = .ok (.iconst 1, 1) := by decide +kernel
theorem dX5_putLatestEntry_10 : decode cX5_putLatestEntry 10 = .ok (.isub, 1) := by decide +kernel
theorem dX5_putLatestEntry_11 : decode cX5_putLatestEntry 11 = .ok (.iload_n 1, 1) := by decide +kernel
theorem dX5_putLatestEntry_12 : decode cX5_putLatestEntry 12 = .ok (.invokevirtual 71, 3) := by decide +kernel
theorem dX5_putLatestEntry_15 : decode cX5_putLatestEntry 15 = .ok (.iload_n 2, 1) := by decide +kernel
theorem dX5_putLatestEntry_16 : decode cX5_putLatestEntry 16 = .ok (.iload_n 3, 1) := by decide +kernel
theorem dX5_putLatestEntry_17 : decode cX5_putLatestEntry 17 = .ok (.invokevirtual 36, 3) := by decide +kernel
theorem dX5_putLatestEntry_20 : decode cX5_putLatestEntry 20 = .ok (.return_, 1) := by decide +kernel
theorem dX5_isFinished_0 : decode cX5_isFinished 0 = .ok (.aload_n 0, 1) := by decide +kernel
theorem dX5_isFinished_1 : decode cX5_isFinished 1 = .ok (.getfield 26, 3) := by decide +kernel
theorem dX5_isFinished_4 : decode cX5_isFinished 4 = .ok (.aload_n 0, 1) := by decide +kernel
theorem dX5_isFinished_5 : decode cX5_isFinished 5 = .ok (.iload_n 1, 1) := by decide +kernel
theorem dX5_isFinished_6 : decode cX5_isFinished 6 = .ok (.iload_n 2, 1) := by decide +kernel
theorem dX5_isFinished_7 : decode cX5_isFinished 7 = .ok (.invokevirtual 71, 3) := by decide +kernel
theorem dX5_isFinished_10 : decode cX5_isFinished 10 = .ok (.iconst 0, 1) := by decide +kernel
theorem dX5_isFinished_11 : decode cX5_isFinished 11 = .ok (.invokevirtual 64, 3) := by decide +kernel
theorem dX5_isFinished_14 : decode cX5_isFinished 14 = .ok (.iconst 3, 1) := by decide +kernel
theorem dX5_isFinished_15 : decode cX5_isFinished 15 = .ok (.if_icmp .ne 7, 3) := by decide +kernel
theorem dX5_isFinished_18 : decode cX5_isFinished 18 = .ok (.iconst 1, 1) := by decide +kernel
theorem dX5_isFinished_19 : decode cX5_isFinished 19 = .ok (.goto 4, 3) := by decide +kernel
theorem dX5_isFinished_22 : decode cX5_isFinished 22 = .ok (.iconst 0, 1) := by decide +kernel
theorem dX5_isFinished_23 : decode cX5_isFinished 23 = .ok (.ireturn, 1) := by decide +kernel
theorem dX5_entriesWith_0 : decode cX5_entriesWith 0 = .ok (.iconst 0, 1) := by decide +kernel
theorem dX5_entriesWith_1 : decode cX5_entriesWith 1 = .ok (.istore 4, 2) := by decide +kernel
theorem dX5_entriesWith_3 : decode cX5_entriesWith 3 = .ok (.iconst 0, 1) := by decide +kernel
theorem dX5_entriesWith_4 : decode cX5_entriesWith 4 = .ok (.istore 5, 2) := by decide +kernel
theorem dX5_entriesWith_6 : decode cX5_entriesWith 6 = .ok (.iload 5, 2) := by decide +kernel
theorem dX5_entriesWith_8 : decode cX5_entriesWith 8 = .ok (.aload_n 0, 1) := by decide +kernel
theorem dX5_entriesWith_9 : decode cX5_entriesWith 9 = .ok (.getfield 44, 3) := by decide +kernel
theorem dX5_entriesWith_12 : decode cX5_entriesWith 12 = .ok (.if_icmp .ge 31, 3) := by decide +kernel
theorem dX5_entriesWith_15 : decode cX5_entriesWith 15 = .ok (.aload_n 0, 1) := by decide +kernel
theorem dX5_entriesWith_16 : decode cX5_entriesWith 16 = .ok (.getfield 26, 3) := by decide +kernel
theorem dX5_entriesWith_19 : decode cX5_entriesWith 19 = .ok (.aload_n 0, 1) := by decide +kernel
theorem dX5_entriesWith_20 : decode cX5_entriesWith 20 = .ok (.iload_n 1, 1) := by decide +kernel
theorem dX5_entriesWith_21 : decode cX5_entriesWith 21 = .ok (.iload 5, 2) := by decide +kernel
theorem dX5_entriesWith_23 : decode cX5_entriesWith 23 = .ok (.invokevirtual 71, 3) := by decide +kernel
theorem dX5_entriesWith_26 : decode cX5_entriesWith 26 = .ok (.iload_n 2, 1) := by decide +kernel
theorem dX5_entriesWith_27 : decode cX5_entriesWith 27 = .ok (.invokevirtual 64, 3) := by decide +kernel
theorem dX5_entriesWith_30 : decode cX5_entriesWith 30 = .ok (.iload_n 3, 1) := by decide +kernel
theorem dX5_entriesWith_31 : decode cX5_entriesWith 31 = .ok (.if_icmp .ne 6, 3) := by decide +kernel
theorem dX5_entriesWith_34 : decode cX5_entriesWith 34 = .ok (.iinc 4 1, 3) := by decide +kernel
theorem dX5_entriesWith_37 : decode cX5_entriesWith 37 = .ok (.iinc 5 1, 3) := by decide +kernel
theorem dX5_entriesWith_40 : decode cX5_entriesWith 40 = .ok (.goto (-34), 3) := by decide +kernel
theorem dX5_entriesWith_43 : decode cX5_entriesWith 43 = .ok (.iload 4, 2) := by decide +kernel
theorem dX5_entriesWith_45 : decode cX5_entriesWith 45 = .ok (.ireturn, 1) := by decide +kernel
theorem dX5_elapsedUntil_0 : decode cX5_elapsedUntil 0 = .ok (.iload_n 1, 1) := by decide +kernel
theorem dX5_elapsedUntil_1 : decode cX5_elapsedUntil 1 = .ok (.aload_n 0, 1) := by decide +kernel
theorem dX5_elapsedUntil_2 : decode cX5_elapsedUntil 2 = .ok (.getfield 23, 3) := by decide +kernel
theorem dX5_elapsedUntil_5 : decode cX5_elapsedUntil 5 = .ok (.iload_n 2, 1) := by decide +kernel
theorem dX5_elapsedUntil_6 : decode cX5_elapsedUntil 6 = .ok (.iconst 2, 1) := by decide +kernel
theorem dX5_elapsedUntil_7 : decode cX5_elapsedUntil 7 = .ok (.invokevirtual 64, 3) := by decide +kernel
theorem dX5_elapsedUntil_10 : decode cX5_elapsedUntil 10 = .ok (.isub, 1) := by decide +kernel
theorem dX5_elapsedUntil_11 : decode cX5_elapsedUntil 11 = .ok (.aload_n 0, 1) := by decide +kernel
theorem dX5_elapsedUntil_12 : decode cX5_elapsedUntil 12 = .ok (.getfield 26, 3) := by decide +kernel
theorem dX5_elapsedUntil_15 : decode cX5_elapsedUntil 15 = .ok (.aload_n 0, 1) := by decide +kernel
theorem dX5_elapsedUntil_16 : decode cX5_elapsedUntil 16 = .ok (.iload_n 2, 1) := by decide +kernel
theorem dX5_elapsedUntil_17 : decode cX5_elapsedUntil 17 = .ok (.iload_n 3, 1) := by decide +kernel
theorem dX5_elapsedUntil_18 : decode cX5_elapsedUntil 18 = .ok (.invokevirtual 71, 3) := by decide +kernel
theorem dX5_elapsedUntil_21 : decode cX5_elapsedUntil 21 = .ok (.iconst 3, 1) := by decide +kernel
theorem dX5_elapsedUntil_22 : decode cX5_elapsedUntil 22 = .ok (.invokevirtual 64, 3) := by decide +kernel
theorem dX5_elapsedUntil_25 : decode cX5_elapsedUntil 25 = .ok (.iadd, 1) := by decide +kernel
theorem dX5_elapsedUntil_26 : decode cX5_elapsedUntil 26 = .ok (.ireturn, 1) := by decide +kernel
theorem dX5_elapsed_0 : decode cX5_elapsed 0 = .ok (.aload_n 0, 1) := by decide +kernel
theorem dX5_elapsed_1 : decode cX5_elapsed 1 = .ok (.iload_n 1, 1) := by decide +kernel
theorem dX5_elapsed_2 : decode cX5_elapsed 2 = .ok (.iload_n 2, 1) := by decide +kernel
theorem dX5_elapsed_3 : decode cX5_elapsed 3 = .ok (.invokevirtual 74, 3) := by decide +kernel
theorem dX5_elapsed_6 : decode cX5_elapsed 6 = .ok (.ifCond .ne 6, 3) := by decide +kernel
theorem dX5_elapsed_9 : decode cX5_elapsed 9 = .ok (.bipush (-5), 2) := by decide +kernel
theorem dX5_elapsed_11 : decode cX5_elapsed 11 = .ok (.ireturn, 1) := by decide +kernel
theorem dX5_elapsed_12 : decode cX5_elapsed 12 = .ok (.aload_n 0, 1) := by decide +kernel
theorem dX5_elapsed_13 : decode cX5_elapsed 13 = .ok (.aload_n 0, 1) := by decide +kernel
theorem dX5_elapsed_14 : decode cX5_elapsed 14 = .ok (.getfield 26, 3) := by decide +kernel
theorem dX5_elapsed_17 : decode cX5_elapsed 17 = .ok (.aload_n 0, 1) := by decide +kernel
theorem dX5_elapsed_18 : decode cX5_elapsed 18 = .ok (.iload_n 1, 1) := by decide +kernel
theorem dX5_elapsed_19 : decode cX5_elapsed 19 = .ok (.iload_n 2, 1) := by decide +kernel
theorem dX5_elapsed_20 : decode cX5_elapsed 20 = .ok (.invokevirtual 71, 3) := by decide +kernel
theorem dX5_elapsed_23 : decode cX5_elapsed 23 = .ok (.iconst 5, 1) := by decide +kernel
theorem dX5_elapsed_24 : decode cX5_elapsed 24 = .ok (.invokevirtual 64, 3) := by decide +kernel
theorem dX5_elapsed_27 : decode cX5_elapsed 27 = .ok (.iload_n 1, 1) := by decide +kernel
theorem dX5_elapsed_28 : decode cX5_elapsed 28 = .ok (.iload_n 2, 1) := by decide +kernel
theorem dX5_elapsed_29 : decode cX5_elapsed 29 = .ok (.invokevirtual 78, 3) := by decide +kernel
theorem dX5_elapsed_32 : decode cX5_elapsed 32 = .ok (.ireturn, 1) := by decide +kernel
theorem dX5_corrected_0 : decode cX5_corrected 0 = .ok (.aload_n 0, 1) := by decide +kernel
theorem dX5_corrected_1 : decode cX5_corrected 1 = .ok (.getfield 14, 3) := by decide +kernel
theorem dX5_corrected_4 : decode cX5_corrected 4 = .ok (.iload_n 2, 1) := by decide +kernel
theorem dX5_corrected_5 : decode cX5_corrected 5 = .ok (.iconst 0, 1) := by decide +kernel
theorem dX5_corrected_6 : decode cX5_corrected 6 = .ok (.invokevirtual 64, 3) := by decide +kernel
theorem dX5_corrected_9 : decode cX5_corrected 9 = .ok (.istore_n 3, 1) := by decide +kernel
theorem dX5_corrected_10 : decode cX5_corrected 10 = .ok (.aload_n 0, 1) := by decide +kernel
theorem dX5_corrected_11 : decode cX5_corrected 11 = .ok (.iload_n 1, 1) := by decide +kernel
theorem dX5_corrected_12 : decode cX5_corrected 12 = .ok (.iload_n 2, 1) := by decide +kernel
theorem dX5_corrected_13 : decode cX5_corrected 13 = .ok (.invokevirtual 74, 3) := by decide +kernel
theorem dX5_corrected_16 : decode cX5_corrected 16 = .ok (.ifCond .eq 7, 3) := by decide +kernel
theorem dX5_corrected_19 : decode cX5_corrected 19 = .ok (.iload_n 3, 1) := by decide +kernel
theorem dX5_corrected_20 : decode cX5_corrected 20 = .ok (.ifCond .gt 6, 3) := by decide +kernel
theorem dX5_corrected_23 : decode cX5_corrected 23 = .ok (.bipush (-5), 2) := by decide +kernel
theorem dX5_corrected_25 : decode cX5_corrected 25 = .ok (.ireturn, 1) := by decide +kernel
theorem dX5_corrected_26 : decode cX5_corrected 26 = .ok (.aload_n 0, 1) := by decide +kernel
theorem dX5_corrected_27 : decode cX5_corrected 27 = .ok (.getfield 26, 3) := by decide +kernel
theorem dX5_corrected_30 : decode cX5_corrected 30 = .ok (.aload_n 0, 1) := by decide +kernel
theorem dX5_corrected_31 : decode cX5_corrected 31 = .ok (.iload_n 1, 1) := by decide +kernel
theorem dX5_corrected_32 : decode cX5_corrected 32 = .ok (.iload_n 2, 1) := by decide +kernel
theorem dX5_corrected_33 : decode cX5_corrected 33 = .ok (.invokevirtual 71, 3) := by decide +kernel
theorem dX5_corrected_36 : decode cX5_corrected 36 = .ok (.iconst 5, 1) := by decide +kernel
theorem dX5_corrected_37 : decode cX5_corrected 37 = .ok (.invokevirtual 64, 3) := by decide +kernel
theorem dX5_corrected_40 : decode cX5_corrected 40 = .ok (.istore 4, 2) := by decide +kernel
theorem dX5_corrected_42 : decode cX5_corrected 42 = .ok (.bipush 100, 2) := by decide +kernel
theorem dX5_corrected_44 : decode cX5_corrected 44 = .ok (.aload_n 0, 1) := by decide +kernel
theorem dX5_corrected_45 : decode cX5_corrected 45 = .ok (.iload 4, 2) := by decide +kernel
theorem dX5_corrected_47 : decode cX5_corrected 47 = .ok (.iload_n 1, 1) := by decide +kernel
theorem dX5_corrected_48 : decode cX5_corrected 48 = .ok (.iload_n 2, 1) := by decide +kernel
theorem dX5_corrected_49 : decode cX5_corrected 49 = .ok (.invokevirtual 78, 3) := by decide +kernel
theorem dX5_corrected_52 : decode cX5_corrected 52 = .ok (.imul, 1) := by decide +kernel
theorem dX5_corrected_53 : decode cX5_corrected 53 = .ok (.iload_n 3, 1) := by decide +kernel
theorem dX5_corrected_54 : decode cX5_corrected 54 = .ok (.idiv, 1) := by decide +kernel
theorem dX5_corrected_55 : decode cX5_corrected 55 = .ok (.ireturn, 1) := by decide +kernel
theorem dX6_init_0 : decode cX6_init 0 = .ok (.aload_n 0, 1) := by decide +kernel
theorem dX6_init_1 : decode cX6_init 1 = .ok (.invokespecial 1, 3) := by decide +kernel
theorem dX6_init_4 : decode cX6_init 4 = .ok (.aload_n 0, 1) := by decide +kernel
theorem dX6_init_5 : decode cX6_init 5 = .ok (.iload_n 2, 1) := by decide +kernel
theorem dX6_init_6 : decode cX6_init 6 = .ok (.putfield 7, 3) := by decide +kernel
theorem dX6_init_9 : decode cX6_init 9 = .ok (.aload_n 0, 1) := by decide +kernel
theorem dX6_init_10 : decode cX6_init 10 = .ok (.iconst 0, 1) := by decide +kernel
theorem dX6_init_11 : decode cX6_init 11 = .ok (.iload_n 1, 1) := by decide +kernel
theorem dX6_init_12 : decode cX6_init 12 = .ok (.iload_n 2, 1) := by decide +kernel
theorem dX6_init_13 : decode cX6_init 13 = .ok (.imul, 1) := by decide +kernel
theorem dX6_init_14 : decode cX6_init 14 = .ok (.invokestatic 13, 3) := by decide +kernel
theorem dX6_init_17 : decode cX6_init 17 = .ok (.newarray .int, 2) := by decide +kernel
theorem dX6_init_19 : decode cX6_init 19 = .ok (.putfield 19, 3) := by decide +kernel
theorem dX6_init_22 : decode cX6_init 22 = .ok (.return_, 1) := by decide +kernel
theorem dX6_get_0 : decode cX6_get 0 = .ok (.iload_n 1, 1) := by decide +kernel
theorem dX6_get_1 : decode cX6_get 1 = .ok (.aload_n 0, 1) := by decide +kernel
theorem dX6_get_2 : decode cX6_get 2 = .ok (.getfield 7, 3) := by decide +kernel
theorem dX6_get_5 : decode cX6_get 5 = .ok (.imul, 1) := by decide +kernel
theorem dX6_get_6 : decode cX6_get 6 = .ok (.iload_n 2, 1) := by decide +kernel
theorem dX6_get_7 : decode cX6_get 7 = .ok (.iadd, 1) := by decide +kernel
theorem dX6_get_8 : decode cX6_get 8 = .ok (.istore_n 3, 1) := by decide +kernel
theorem dX6_get_9 : decode cX6_get 9 = .ok (.iload_n 3, 1) := by decide +kernel
theorem dX6_get_10 : decode cX6_get 10 = .ok (.ifCond .lt 21, 3) := by decide +kernel
theorem dX6_get_13 : decode cX6_get 13 = .ok (.iload_n 3, 1) := by decide +kernel
theorem dX6_get_14 : decode cX6_get 14 = .ok (.aload_n 0, 1) := by decide +kernel
theorem dX6_get_15 : decode cX6_get 15 = .ok (.getfield 19, 3) := by decide +kernel
theorem dX6_get_18 : decode cX6_get 18 = .ok (.arraylength, 1) := by decide +kernel
theorem dX6_get_19 : decode cX6_get 19 = .ok (.if_icmp .ge 12, 3) := by decide +kernel
theorem dX6_get_22 : decode cX6_get 22 = .ok (.aload_n 0, 1) := by decide +kernel
theorem dX6_get_23 : decode cX6_get 23 = .ok (.getfield 19, 3) := by decide +kernel
theorem dX6_get_26 : decode cX6_get 26 = .ok (.iload_n 3, 1) := by decide +kernel
theorem dX6_get_27 : decode cX6_get 27 = .ok (.iaload, 1) := by decide +kernel
theorem dX6_get_28 : decode cX6_get 28 = .ok (.goto 4, 3) := by decide +kernel
theorem dX6_get_31 : decode cX6_get 31 = .ok (.iconst 0, 1) := by decide +kernel
theorem dX6_get_32 : decode cX6_get 32 = .ok (.ireturn, 1) := by decide +kernel
theorem dX6_put_0 : decode cX6_put 0 = .ok (.iload_n 1, 1) := by decide +kernel
theorem dX6_put_1 : decode cX6_put 1 = .ok (.aload_n 0, 1) := by decide +kernel
theorem dX6_put_2 : decode cX6_put 2 = .ok (.getfield 7, 3) := by decide +kernel
theorem dX6_put_5 : decode cX6_put 5 = .ok (.imul, 1) := by decide +kernel
theorem dX6_put_6 : decode cX6_put 6 = .ok (.iload_n 2, 1) := by decide +kernel
theorem dX6_put_7 : decode cX6_put 7 = .ok (.iadd, 1) := by decide +kernel
theorem dX6_put_8 : decode cX6_put 8 = .ok (.istore 4, 2) := by decide +kernel
theorem dX6_put_10 : decode cX6_put 10 = .ok (.iload 4, 2) := by decide +kernel
theorem dX6_put_12 : decode cX6_put 12 = .ok (.ifCond .lt 21, 3) := by decide +kernel
theorem dX6_put_15 : decode cX6_put 15 = .ok (.iload 4, 2) := by decide +kernel
theorem dX6_put_17 : decode cX6_put 17 = .ok (.aload_n 0, 1) := by decide +kernel
theorem dX6_put_18 : decode cX6_put 18 = .ok (.getfield 19, 3) := by decide +kernel
theorem dX6_put_21 : decode cX6_put 21 = .ok (.arraylength, 1) := by decide +kernel
theorem dX6_put_22 : decode cX6_put 22 = .ok (.if_icmp .ge 11, 3) := by decide +kernel
theorem dX6_put_25 : decode cX6_put 25 = .ok (.aload_n 0, 1) := by decide +kernel
theorem dX6_put_26 : decode cX6_put 26 = .ok (.getfield 19, 3) := by decide +kernel
theorem dX6_put_29 : decode cX6_put 29 = .ok (.iload 4, 2) := by decide +kernel
theorem dX6_put_31 : decode cX6_put 31 = .ok (.iload_n 3, 1) := by decide +kernel
theorem dX6_put_32 : decode cX6_put 32 = .ok (.iastore, 1) := by decide +kernel
theorem dX6_put_33 : decode cX6_put 33 = .ok (.return_, 1) := by decide +kernel
theorem dX6_add_0 : decode cX6_add 0 = .ok (.aload_n 0, 1) := by decide +kernel
theorem dX6_add_1 : decode cX6_add 1 = .ok (.iload_n 1, 1) := by decide +kernel
theorem dX6_add_2 : decode cX6_add 2 = .ok (.iload_n 2, 1) := by decide +kernel
theorem dX6_add_3 : decode cX6_add 3 = .ok (.aload_n 0, 1) := by decide +kernel
theorem dX6_add_4 : decode cX6_add 4 = .ok (.iload_n 1, 1) := by decide +kernel
theorem dX6_add_5 : decode cX6_add 5 = .ok (.iload_n 2, 1) := by decide +kernel
theorem dX6_add_6 : decode cX6_add 6 = .ok (.invokevirtual 23, 3) := by decide +kernel
theorem dX6_add_9 : decode cX6_add 9 = .ok (.iload_n 3, 1) := by decide +kernel
theorem dX6_add_10 : decode cX6_add 10 = .ok (.iadd, 1) := by decide +kernel
theorem dX6_add_11 : decode cX6_add 11 = .ok (.invokevirtual 26, 3) := by decide +kernel
theorem dX6_add_14 : decode cX6_add 14 = .ok (.return_, 1) := by decide +kernel
theorem dX6_clearRow_0 : decode cX6_clearRow 0 = .ok (.iconst 0, 1) := by decide +kernel
theorem dX6_clearRow_1 : decode cX6_clearRow 1 = .ok (.istore_n 2, 1) := by decide +kernel
theorem dX6_clearRow_2 : decode cX6_clearRow 2 = .ok (.iload_n 2, 1) := by decide +kernel
theorem dX6_clearRow_3 : decode cX6_clearRow 3 = .ok (.aload_n 0, 1) := by decide +kernel
theorem dX6_clearRow_4 : decode cX6_clearRow 4 = .ok (.getfield 7, 3) := by decide +kernel
theorem dX6_clearRow_7 : decode cX6_clearRow 7 = .ok (.if_icmp .ge 16, 3) := by decide +kernel
theorem dX6_clearRow_10 : decode cX6_clearRow 10 = .ok (.aload_n 0, 1) := by decide +kernel
theorem dX6_clearRow_11 : decode cX6_clearRow 11 = .ok (.iload_n 1, 1) := by decide +kernel
theorem dX6_clearRow_12 : decode cX6_clearRow 12 = .ok (.iload_n 2, 1) := by decide +kernel
theorem dX6_clearRow_13 : decode cX6_clearRow 13 = .ok (.iconst 0, 1) := by decide +kernel
theorem dX6_clearRow_14 : decode cX6_clearRow 14 = .ok (.invokevirtual 26, 3) := by decide +kernel
theorem dX6_clearRow_17 : decode cX6_clearRow 17 = .ok (.iinc 2 1, 3) := by decide +kernel
theorem dX6_clearRow_20 : decode cX6_clearRow 20 = .ok (.goto (-18), 3) := by decide +kernel
theorem dX6_clearRow_23 : decode cX6_clearRow 23 = .ok (.return_, 1) := by decide +kernel
theorem dX6_copyFrom_0 : decode cX6_copyFrom 0 = .ok (.aload_n 0, 1) := by decide +kernel
theorem dX6_copyFrom_1 : decode cX6_copyFrom 1 = .ok (.getfield 19, 3) := by decide +kernel
theorem dX6_copyFrom_4 : decode cX6_copyFrom 4 = .ok (.arraylength, 1) := by decide +kernel
theorem dX6_copyFrom_5 : decode cX6_copyFrom 5 = .ok (.aload_n 1, 1) := by decide +kernel
theorem dX6_copyFrom_6 : decode cX6_copyFrom 6 = .ok (.getfield 19, 3) := by decide +kernel
theorem dX6_copyFrom_9 : decode cX6_copyFrom 9 = .ok (.arraylength, 1) := by decide +kernel
theorem dX6_copyFrom_10 : decode cX6_copyFrom 10 = .ok (.invokestatic 30, 3) := by decide +kernel
theorem dX6_copyFrom_13 : decode cX6_copyFrom 13 = .ok (.istore_n 2, 1) := by decide +kernel
theorem dX6_copyFrom_14 : decode cX6_copyFrom 14 = .ok (.aload_n 1, 1) := by decide +kernel
theorem dX6_copyFrom_15 : decode cX6_copyFrom 15 = .ok (.getfield 19, 3) := by decide +kernel
theorem dX6_copyFrom_18 : decode cX6_copyFrom 18 = .ok (.iconst 0, 1) := by decide +kernel
theorem dX6_copyFrom_19 : decode cX6_copyFrom 19 = .ok (.aload_n 0, 1) := by decide +kernel
theorem dX6_copyFrom_20 : decode cX6_copyFrom 20 = .ok (.getfield 19, 3) := by decide +kernel
theorem dX6_copyFrom_23 : decode cX6_copyFrom 23 = .ok (.iconst 0, 1) := by decide +kernel
theorem dX6_copyFrom_24 : decode cX6_copyFrom 24 = .ok (.iload_n 2, 1) := by decide +kernel
theorem dX6_copyFrom_25 : decode cX6_copyFrom 25 = .ok (.invokestatic 33, 3) := by decide +kernel
theorem dX6_copyFrom_28 : decode cX6_copyFrom 28 = .ok (.return_, 1) := by decide +kernel
theorem dX7_init_0 : decode cX7_init 0 = .ok (.aload_n 0, 1) := by decide +kernel
theorem dX7_init_1 : decode cX7_init 1 = .ok (.invokespecial 1, 3) := by decide +kernel
theorem dX7_init_4 : decode cX7_init 4 = .ok (.aload_n 0, 1) := by decide +kernel
theorem dX7_init_5 : decode cX7_init 5 = .ok (.new 7, 3) := by decide +kernel
theorem dX7_init_8 : decode cX7_init 8 = .ok (.dup, 1) := by decide +kernel
theorem dX7_init_9 : decode cX7_init 9 = .ok (.invokespecial 9, 3) := by decide +kernel
theorem dX7_init_12 : decode cX7_init 12 = .ok (.putfield 10, 3) := by decide +kernel
theorem dX7_init_15 : decode cX7_init 15 = .ok (.aload_n 0, 1) := by decide +kernel
theorem dX7_init_16 : decode cX7_init 16 = .ok (.new 16, 3) := by decide +kernel
theorem dX7_init_19 : decode cX7_init 19 = .ok (.dup, 1) := by decide +kernel
theorem dX7_init_20 : decode cX7_init 20 = .ok (.aload_n 0, 1) := by decide +kernel
theorem dX7_init_21 : decode cX7_init 21 = .ok (.getfield 10, 3) := by decide +kernel
theorem dX7_init_24 : decode cX7_init 24 = .ok (.invokespecial 18, 3) := by decide +kernel
theorem dX7_init_27 : decode cX7_init 27 = .ok (.putfield 21, 3) := by decide +kernel
theorem dX7_init_30 : decode cX7_init 30 = .ok (.aload_n 0, 1) := by decide +kernel
theorem dX7_init_31 : decode cX7_init 31 = .ok (.new 25, 3) := by decide +kernel
theorem dX7_init_34 : decode cX7_init 34 = .ok (.dup, 1) := by decide +kernel
theorem dX7_init_35 : decode cX7_init 35 = .ok (.aload_n 0, 1) := by decide +kernel
theorem dX7_init_36 : decode cX7_init 36 = .ok (.getfield 10, 3) := by decide +kernel
theorem dX7_init_39 : decode cX7_init 39 = .ok (.invokespecial 27, 3) := by decide +kernel
theorem dX7_init_42 : decode cX7_init 42 = .ok (.putfield 28, 3) := by decide +kernel
theorem dX7_init_45 : decode cX7_init 45 = .ok (.aload_n 0, 1) := by decide +kernel
theorem dX7_init_46 : decode cX7_init 46 = .ok (.new 32, 3) := by decide +kernel
theorem dX7_init_49 : decode cX7_init 49 = .ok (.dup, 1) := by decide +kernel
theorem dX7_init_50 : decode cX7_init 50 = .ok (.aload_n 0, 1) := by decide +kernel
theorem dX7_init_51 : decode cX7_init 51 = .ok (.getfield 10, 3) := by decide +kernel
theorem dX7_init_54 : decode cX7_init 54 = .ok (.invokespecial 34, 3) := by decide +kernel
theorem dX7_init_57 : decode cX7_init 57 = .ok (.putfield 35, 3) := by decide +kernel
theorem dX7_init_60 : decode cX7_init 60 = .ok (.aload_n 0, 1) := by decide +kernel
theorem dX7_init_61 : decode cX7_init 61 = .ok (.new 7, 3) := by decide +kernel
theorem dX7_init_64 : decode cX7_init 64 = .ok (.dup, 1) := by decide +kernel
theorem dX7_init_65 : decode cX7_init 65 = .ok (.invokespecial 9, 3) := by decide +kernel
theorem dX7_init_68 : decode cX7_init 68 = .ok (.putfield 39, 3) := by decide +kernel
theorem dX7_init_71 : decode cX7_init 71 = .ok (.aload_n 0, 1) := by decide +kernel
theorem dX7_init_72 : decode cX7_init 72 = .ok (.new 32, 3) := by decide +kernel
theorem dX7_init_75 : decode cX7_init 75 = .ok (.dup, 1) := by decide +kernel
theorem dX7_init_76 : decode cX7_init 76 = .ok (.aload_n 0, 1) := by decide +kernel
theorem dX7_init_77 : decode cX7_init 77 = .ok (.getfield 39, 3) := by decide +kernel
theorem dX7_init_80 : decode cX7_init 80 = .ok (.invokespecial 34, 3) := by decide +kernel
theorem dX7_init_83 : decode cX7_init 83 = .ok (.putfield 42, 3) := by decide +kernel
theorem dX7_init_86 : decode cX7_init 86 = .ok (.aload_n 0, 1) := by decide +kernel
theorem dX7_init_87 : decode cX7_init 87 = .ok (.new 45, 3) := by decide +kernel
theorem dX7_init_90 : decode cX7_init 90 = .ok (.dup, 1) := by decide +kernel
theorem dX7_init_91 : decode cX7_init 91 = .ok (.invokespecial 47, 3) := by decide +kernel
theorem dX7_init_94 : decode cX7_init 94 = .ok (.putfield 48, 3) := by decide +kernel
theorem dX7_init_97 : decode cX7_init 97 = .ok (.aload_n 0, 1) := by decide +kernel
theorem dX7_init_98 : decode cX7_init 98 = .ok (.new 7, 3) := by decide +kernel
theorem dX7_init_101 : decode cX7_init 101 = .ok (.dup, 1) := by decide +kernel
theorem dX7_init_102 : decode cX7_init 102 = .ok (.invokespecial 9, 3) := by decide +kernel
theorem dX7_init_105 : decode cX7_init 105 = .ok (.putfield 52, 3) := by decide +kernel
theorem dX7_init_108 : decode cX7_init 108 = .ok (.aload_n 0, 1) := by decide +kernel
theorem dX7_init_109 : decode cX7_init 109 = .ok (.iconst 0, 1) := by decide +kernel
theorem dX7_init_110 : decode cX7_init 110 = .ok (.putfield 55, 3) := by decide +kernel
theorem dX7_init_113 : decode cX7_init 113 = .ok (.aload_n 0, 1) := by decide +kernel
theorem dX7_init_114 : decode cX7_init 114 = .ok (.new 59, 3) := by decide +kernel
theorem dX7_init_117 : decode cX7_init 117 = .ok (.dup, 1) := by decide +kernel
theorem dX7_init_118 : decode cX7_init 118 = .ok (.invokespecial 61, 3) := by decide +kernel
theorem dX7_init_121 : decode cX7_init 121 = .ok (.putfield 62, 3) := by decide +kernel
theorem dX7_init_124 : decode cX7_init 124 = .ok (.return_, 1) := by decide +kernel
theorem dX7_enter_0 : decode cX7_enter 0 = .ok (.aload_n 0, 1) := by decide +kernel
theorem dX7_enter_1 : decode cX7_enter 1 = .ok (.getfield 48, 3) := by decide +kernel
theorem dX7_enter_4 : decode cX7_enter 4 = .ok (.aload_n 0, 1) := by decide +kernel
theorem dX7_enter_5 : decode cX7_enter 5 = .ok (.getfield 10, 3) := by decide +kernel
theorem dX7_enter_8 : decode cX7_enter 8 = .ok (.invokevirtual 66, 3) := by decide +kernel
theorem dX7_enter_11 : decode cX7_enter 11 = .ok (.aload_n 0, 1) := by decide +kernel
theorem dX7_enter_12 : decode cX7_enter 12 = .ok (.getfield 48, 3) := by decide +kernel
theorem dX7_enter_15 : decode cX7_enter 15 = .ok (.aload_n 0, 1) := by decide +kernel
theorem dX7_enter_16 : decode cX7_enter 16 = .ok (.getfield 21, 3) := by decide +kernel
theorem dX7_enter_19 : decode cX7_enter 19 = .ok (.iload_n 1, 1) := by decide +kernel
theorem dX7_enter_20 : decode cX7_enter 20 = .ok (.invokevirtual 69, 3) := by decide +kernel
theorem dX7_enter_23 : decode cX7_enter 23 = .ok (.invokevirtual 73, 3) := by decide +kernel
theorem dX7_enter_26 : decode cX7_enter 26 = .ok (.ireturn, 1) := by decide +kernel
theorem dX7_prepare_0 : decode cX7_prepare 0 = .ok (.aload_n 0, 1) := by decide +kernel
theorem dX7_prepare_1 : decode cX7_prepare 1 = .ok (.getfield 48, 3) := by decide +kernel
theorem dX7_prepare_4 : decode cX7_prepare 4 = .ok (.aload_n 0, 1) := by decide +kernel
theorem dX7_prepare_5 : decode cX7_prepare 5 = .ok (.getfield 10, 3) := by decide +kernel
theorem dX7_prepare_8 : decode cX7_prepare 8 = .ok (.invokevirtual 66, 3) := by decide +kernel
theorem dX7_prepare_11 : decode cX7_prepare 11 = .ok (.aload_n 0, 1) := by decide +kernel
theorem dX7_prepare_12 : decode cX7_prepare 12 = .ok (.getfield 48, 3) := by decide +kernel
theorem dX7_prepare_15 : decode cX7_prepare 15 = .ok (.aload_n 0, 1) := by decide +kernel
theorem dX7_prepare_16 : decode cX7_prepare 16 = .ok (.getfield 21, 3) := by decide +kernel
theorem dX7_prepare_19 : decode cX7_prepare 19 = .ok (.iload_n 1, 1) := by decide +kernel
theorem dX7_prepare_20 : decode cX7_prepare 20 = .ok (.iload_n 2, 1) := by decide +kernel
theorem dX7_prepare_21 : decode cX7_prepare 21 = .ok (.iload_n 3, 1) := by decide +kernel
theorem dX7_prepare_22 : decode cX7_prepare 22 = .ok (.invokevirtual 76, 3) := by decide +kernel
theorem dX7_prepare_25 : decode cX7_prepare 25 = .ok (.invokevirtual 73, 3) := by decide +kernel
theorem dX7_prepare_28 : decode cX7_prepare 28 = .ok (.ireturn, 1) := by decide +kernel
theorem dX7_postpone_0 : decode cX7_postpone 0 = .ok (.aload_n 0, 1) := by decide +kernel
theorem dX7_postpone_1 : decode cX7_postpone 1 = .ok (.getfield 48, 3) := by decide +kernel
theorem dX7_postpone_4 : decode cX7_postpone 4 = .ok (.aload_n 0, 1) := by decide +kernel
theorem dX7_postpone_5 : decode cX7_postpone 5 = .ok (.getfield 10, 3) := by decide +kernel
theorem dX7_postpone_8 : decode cX7_postpone 8 = .ok (.invokevirtual 66, 3) := by decide +kernel
theorem dX7_postpone_11 : decode cX7_postpone 11 = .ok (.aload_n 0, 1) := by decide +kernel
theorem dX7_postpone_12 : decode cX7_postpone 12 = .ok (.getfield 48, 3) := by decide +kernel
theorem dX7_postpone_15 : decode cX7_postpone 15 = .ok (.aload_n 0, 1) := by decide +kernel
theorem dX7_postpone_16 : decode cX7_postpone 16 = .ok (.getfield 21, 3) := by decide +kernel
theorem dX7_postpone_19 : decode cX7_postpone 19 = .ok (.iload_n 1, 1) := by decide +kernel
theorem dX7_postpone_20 : decode cX7_postpone 20 = .ok (.invokevirtual 80, 3) := by decide +kernel
theorem dX7_postpone_23 : decode cX7_postpone 23 = .ok (.invokevirtual 73, 3) := by decide +kernel
theorem dX7_postpone_26 : decode cX7_postpone 26 = .ok (.ireturn, 1) := by decide +kernel
theorem dX7_recall_0 : decode cX7_recall 0 = .ok (.aload_n 0, 1) := by decide +kernel
theorem dX7_recall_1 : decode cX7_recall 1 = .ok (.getfield 48, 3) := by decide +kernel
theorem dX7_recall_4 : decode cX7_recall 4 = .ok (.aload_n 0, 1) := by decide +kernel
theorem dX7_recall_5 : decode cX7_recall 5 = .ok (.getfield 10, 3) := by decide +kernel
theorem dX7_recall_8 : decode cX7_recall 8 = .ok (.invokevirtual 66, 3) := by decide +kernel
theorem dX7_recall_11 : decode cX7_recall 11 = .ok (.aload_n 0, 1) := by decide +kernel
theorem dX7_recall_12 : decode cX7_recall 12 = .ok (.getfield 48, 3) := by decide +kernel
theorem dX7_recall_15 : decode cX7_recall 15 = .ok (.aload_n 0, 1) := by decide +kernel
theorem dX7_recall_16 : decode cX7_recall 16 = .ok (.getfield 21, 3) := by decide +kernel
theorem dX7_recall_19 : decode cX7_recall 19 = .ok (.invokevirtual 83, 3) := by decide +kernel
theorem dX7_recall_22 : decode cX7_recall 22 = .ok (.invokevirtual 73, 3) := by decide +kernel
theorem dX7_recall_25 : decode cX7_recall 25 = .ok (.ireturn, 1) := by decide +kernel
theorem dX7_pass_0 : decode cX7_pass 0 = .ok (.aload_n 0, 1) := by decide +kernel
theorem dX7_pass_1 : decode cX7_pass 1 = .ok (.getfield 48, 3) := by decide +kernel
theorem dX7_pass_4 : decode cX7_pass 4 = .ok (.aload_n 0, 1) := by decide +kernel
theorem dX7_pass_5 : decode cX7_pass 5 = .ok (.getfield 10, 3) := by decide +kernel
theorem dX7_pass_8 : decode cX7_pass 8 = .ok (.invokevirtual 66, 3) := by decide +kernel
theorem dX7_pass_11 : decode cX7_pass 11 = .ok (.aload_n 0, 1) := by decide +kernel
theorem dX7_pass_12 : decode cX7_pass 12 = .ok (.getfield 48, 3) := by decide +kernel
theorem dX7_pass_15 : decode cX7_pass 15 = .ok (.aload_n 0, 1) := by decide +kernel
theorem dX7_pass_16 : decode cX7_pass 16 = .ok (.getfield 21, 3) := by decide +kernel
theorem dX7_pass_19 : decode cX7_pass 19 = .ok (.iload_n 1, 1) := by decide +kernel
theorem dX7_pass_20 : decode cX7_pass 20 = .ok (.invokevirtual 87, 3) := by decide +kernel
theorem dX7_pass_23 : decode cX7_pass 23 = .ok (.invokevirtual 73, 3) := by decide +kernel
theorem dX7_pass_26 : decode cX7_pass 26 = .ok (.ireturn, 1) := by decide +kernel
theorem dX7_line_0 : decode cX7_line 0 = .ok (.aload_n 0, 1) := by decide +kernel
theorem dX7_line_1 : decode cX7_line 1 = .ok (.getfield 48, 3) := by decide +kernel
theorem dX7_line_4 : decode cX7_line 4 = .ok (.aload_n 0, 1) := by decide +kernel
theorem dX7_line_5 : decode cX7_line 5 = .ok (.getfield 10, 3) := by decide +kernel
theorem dX7_line_8 : decode cX7_line 8 = .ok (.invokevirtual 66, 3) := by decide +kernel
theorem dX7_line_11 : decode cX7_line 11 = .ok (.aload_n 0, 1) := by decide +kernel
theorem dX7_line_12 : decode cX7_line 12 = .ok (.getfield 48, 3) := by decide +kernel
theorem dX7_line_15 : decode cX7_line 15 = .ok (.aload_n 0, 1) := by decide +kernel
theorem dX7_line_16 : decode cX7_line 16 = .ok (.getfield 21, 3) := by decide +kernel
theorem dX7_line_19 : decode cX7_line 19 = .ok (.iload_n 1, 1) := by decide +kernel
theorem dX7_line_20 : decode cX7_line 20 = .ok (.invokevirtual 90, 3) := by decide +kernel
theorem dX7_line_23 : decode cX7_line 23 = .ok (.invokevirtual 73, 3) := by decide +kernel
theorem dX7_line_26 : decode cX7_line 26 = .ok (.ireturn, 1) := by decide +kernel
theorem dX7_buoy_0 : decode cX7_buoy 0 = .ok (.aload_n 0, 1) := by decide +kernel
theorem dX7_buoy_1 : decode cX7_buoy 1 = .ok (.getfield 48, 3) := by decide +kernel
theorem dX7_buoy_4 : decode cX7_buoy 4 = .ok (.aload_n 0, 1) := by decide +kernel
theorem dX7_buoy_5 : decode cX7_buoy 5 = .ok (.getfield 10, 3) := by decide +kernel
theorem dX7_buoy_8 : decode cX7_buoy 8 = .ok (.invokevirtual 66, 3) := by decide +kernel
theorem dX7_buoy_11 : decode cX7_buoy 11 = .ok (.aload_n 0, 1) := by decide +kernel
theorem dX7_buoy_12 : decode cX7_buoy 12 = .ok (.getfield 48, 3) := by decide +kernel
theorem dX7_buoy_15 : decode cX7_buoy 15 = .ok (.aload_n 0, 1) := by decide +kernel
theorem dX7_buoy_16 : decode cX7_buoy 16 = .ok (.getfield 21, 3) := by decide +kernel
theorem dX7_buoy_19 : decode cX7_buoy 19 = .ok (.iload_n 1, 1) := by decide +kernel
theorem dX7_buoy_20 : decode cX7_buoy 20 = .ok (.iload_n 2, 1) := by decide +kernel
theorem dX7_buoy_21 : decode cX7_buoy 21 = .ok (.invokevirtual 93, 3) := by decide +kernel
theorem dX7_buoy_24 : decode cX7_buoy 24 = .ok (.invokevirtual 73, 3) := by decide +kernel
theorem dX7_buoy_27 : decode cX7_buoy 27 = .ok (.ireturn, 1) := by decide +kernel
theorem dX7_retire_0 : decode cX7_retire 0 = .ok (.aload_n 0, 1) := by decide +kernel
theorem dX7_retire_1 : decode cX7_retire 1 = .ok (.getfield 48, 3) := by decide +kernel
theorem dX7_retire_4 : decode cX7_retire 4 = .ok (.aload_n 0, 1) := by decide +kernel
theorem dX7_retire_5 : decode cX7_retire 5 = .ok (.getfield 10, 3) := by decide +kernel
theorem dX7_retire_8 : decode cX7_retire 8 = .ok (.invokevirtual 66, 3) := by decide +kernel
theorem dX7_retire_11 : decode cX7_retire 11 = .ok (.aload_n 0, 1) := by decide +kernel
theorem dX7_retire_12 : decode cX7_retire 12 = .ok (.getfield 48, 3) := by decide +kernel
theorem dX7_retire_15 : decode cX7_retire 15 = .ok (.aload_n 0, 1) := by decide +kernel
theorem dX7_retire_16 : decode cX7_retire 16 = .ok (.getfield 21, 3) := by decide +kernel
theorem dX7_retire_19 : decode cX7_retire 19 = .ok (.iload_n 1, 1) := by decide +kernel
theorem dX7_retire_20 : decode cX7_retire 20 = .ok (.invokevirtual 97, 3) := by decide +kernel
theorem dX7_retire_23 : decode cX7_retire 23 = .ok (.invokevirtual 73, 3) := by decide +kernel
theorem dX7_retire_26 : decode cX7_retire 26 = .ok (.ireturn, 1) := by decide +kernel
theorem dX7_close_0 : decode cX7_close 0 = .ok (.aload_n 0, 1) := by decide +kernel
theorem dX7_close_1 : decode cX7_close 1 = .ok (.getfield 48, 3) := by decide +kernel
theorem dX7_close_4 : decode cX7_close 4 = .ok (.aload_n 0, 1) := by decide +kernel
theorem dX7_close_5 : decode cX7_close 5 = .ok (.getfield 10, 3) := by decide +kernel
theorem dX7_close_8 : decode cX7_close 8 = .ok (.invokevirtual 66, 3) := by decide +kernel
theorem dX7_close_11 : decode cX7_close 11 = .ok (.aload_n 0, 1) := by decide +kernel
theorem dX7_close_12 : decode cX7_close 12 = .ok (.getfield 48, 3) := by decide +kernel
theorem dX7_close_15 : decode cX7_close 15 = .ok (.aload_n 0, 1) := by decide +kernel
theorem dX7_close_16 : decode cX7_close 16 = .ok (.getfield 21, 3) := by decide +kernel
theorem dX7_close_19 : decode cX7_close 19 = .ok (.invokevirtual 100, 3) := by decide +kernel
theorem dX7_close_22 : decode cX7_close 22 = .ok (.invokevirtual 73, 3) := by decide +kernel
theorem dX7_close_25 : decode cX7_close 25 = .ok (.ireturn, 1) := by decide +kernel
theorem dX7_hail_0 : decode cX7_hail 0 = .ok (.aload_n 0, 1) := by decide +kernel
theorem dX7_hail_1 : decode cX7_hail 1 = .ok (.getfield 48, 3) := by decide +kernel
theorem dX7_hail_4 : decode cX7_hail 4 = .ok (.aload_n 0, 1) := by decide +kernel
theorem dX7_hail_5 : decode cX7_hail 5 = .ok (.getfield 10, 3) := by decide +kernel
theorem dX7_hail_8 : decode cX7_hail 8 = .ok (.invokevirtual 66, 3) := by decide +kernel
theorem dX7_hail_11 : decode cX7_hail 11 = .ok (.aload_n 0, 1) := by decide +kernel
theorem dX7_hail_12 : decode cX7_hail 12 = .ok (.getfield 48, 3) := by decide +kernel
theorem dX7_hail_15 : decode cX7_hail 15 = .ok (.aload_n 0, 1) := by decide +kernel
theorem dX7_hail_16 : decode cX7_hail 16 = .ok (.getfield 28, 3) := by decide +kernel
theorem dX7_hail_19 : decode cX7_hail 19 = .ok (.iload_n 1, 1) := by decide +kernel
theorem dX7_hail_20 : decode cX7_hail 20 = .ok (.iload_n 2, 1) := by decide +kernel
theorem dX7_hail_21 : decode cX7_hail 21 = .ok (.invokevirtual 103, 3) := by decide +kernel
theorem dX7_hail_24 : decode cX7_hail 24 = .ok (.invokevirtual 73, 3) := by decide +kernel
theorem dX7_hail_27 : decode cX7_hail 27 = .ok (.ireturn, 1) := by decide +kernel
theorem dX7_file_0 : decode cX7_file 0 = .ok (.aload_n 0, 1) := by decide +kernel
theorem dX7_file_1 : decode cX7_file 1 = .ok (.getfield 48, 3) := by decide +kernel
theorem dX7_file_4 : decode cX7_file 4 = .ok (.aload_n 0, 1) := by decide +kernel
theorem dX7_file_5 : decode cX7_file 5 = .ok (.getfield 10, 3) := by decide +kernel
theorem dX7_file_8 : decode cX7_file 8 = .ok (.invokevirtual 66, 3) := by decide +kernel
theorem dX7_file_11 : decode cX7_file 11 = .ok (.aload_n 0, 1) := by decide +kernel
theorem dX7_file_12 : decode cX7_file 12 = .ok (.getfield 48, 3) := by decide +kernel
theorem dX7_file_15 : decode cX7_file 15 = .ok (.aload_n 0, 1) := by decide +kernel
theorem dX7_file_16 : decode cX7_file 16 = .ok (.getfield 28, 3) := by decide +kernel
theorem dX7_file_19 : decode cX7_file 19 = .ok (.iload_n 1, 1) := by decide +kernel
theorem dX7_file_20 : decode cX7_file 20 = .ok (.invokevirtual 106, 3) := by decide +kernel
theorem dX7_file_23 : decode cX7_file 23 = .ok (.invokevirtual 73, 3) := by decide +kernel
theorem dX7_file_26 : decode cX7_file 26 = .ok (.ireturn, 1) := by decide +kernel
theorem dX7_accept_0 : decode cX7_accept 0 = .ok (.aload_n 0, 1) := by decide +kernel
theorem dX7_accept_1 : decode cX7_accept 1 = .ok (.getfield 48, 3) := by decide +kernel
theorem dX7_accept_4 : decode cX7_accept 4 = .ok (.aload_n 0, 1) := by decide +kernel
theorem dX7_accept_5 : decode cX7_accept 5 = .ok (.getfield 10, 3) := by decide +kernel
theorem dX7_accept_8 : decode cX7_accept 8 = .ok (.invokevirtual 66, 3) := by decide +kernel
theorem dX7_accept_11 : decode cX7_accept 11 = .ok (.aload_n 0, 1) := by decide +kernel
theorem dX7_accept_12 : decode cX7_accept 12 = .ok (.getfield 48, 3) := by decide +kernel
theorem dX7_accept_15 : decode cX7_accept 15 = .ok (.aload_n 0, 1) := by decide +kernel
theorem dX7_accept_16 : decode cX7_accept 16 = .ok (.getfield 28, 3) := by decide +kernel
theorem dX7_accept_19 : decode cX7_accept 19 = .ok (.iload_n 1, 1) := by decide +kernel
theorem dX7_accept_20 : decode cX7_accept 20 = .ok (.invokevirtual 109, 3) := by decide +kernel
theorem dX7_accept_23 : decode cX7_accept 23 = .ok (.invokevirtual 73, 3) := by decide +kernel
theorem dX7_accept_26 : decode cX7_accept 26 = .ok (.ireturn, 1) := by decide +kernel
theorem dX7_decide_0 : decode cX7_decide 0 = .ok (.aload_n 0, 1) := by decide +kernel
theorem dX7_decide_1 : decode cX7_decide 1 = .ok (.getfield 48, 3) := by decide +kernel
theorem dX7_decide_4 : decode cX7_decide 4 = .ok (.aload_n 0, 1) := by decide +kernel
theorem dX7_decide_5 : decode cX7_decide 5 = .ok (.getfield 10, 3) := by decide +kernel
theorem dX7_decide_8 : decode cX7_decide 8 = .ok (.invokevirtual 66, 3) := by decide +kernel
theorem dX7_decide_11 : decode cX7_decide 11 = .ok (.aload_n 0, 1) := by decide +kernel
theorem dX7_decide_12 : decode cX7_decide 12 = .ok (.getfield 48, 3) := by decide +kernel
theorem dX7_decide_15 : decode cX7_decide 15 = .ok (.aload_n 0, 1) := by decide +kernel
theorem dX7_decide_16 : decode cX7_decide 16 = .ok (.getfield 28, 3) := by decide +kernel
theorem dX7_decide_19 : decode cX7_decide 19 = .ok (.iload_n 1, 1) := by decide +kernel
theorem dX7_decide_20 : decode cX7_decide 20 = .ok (.iload_n 2, 1) := by decide +kernel
theorem dX7_decide_21 : decode cX7_decide 21 = .ok (.invokevirtual 112, 3) := by decide +kernel
theorem dX7_decide_24 : decode cX7_decide 24 = .ok (.invokevirtual 73, 3) := by decide +kernel
theorem dX7_decide_27 : decode cX7_decide 27 = .ok (.ireturn, 1) := by decide +kernel
theorem dX7_set_0 : decode cX7_set 0 = .ok (.aload_n 0, 1) := by decide +kernel
theorem dX7_set_1 : decode cX7_set 1 = .ok (.getfield 48, 3) := by decide +kernel
theorem dX7_set_4 : decode cX7_set 4 = .ok (.aload_n 0, 1) := by decide +kernel
theorem dX7_set_5 : decode cX7_set 5 = .ok (.getfield 10, 3) := by decide +kernel
theorem dX7_set_8 : decode cX7_set 8 = .ok (.invokevirtual 66, 3) := by decide +kernel
theorem dX7_set_11 : decode cX7_set 11 = .ok (.aload_n 0, 1) := by decide +kernel
theorem dX7_set_12 : decode cX7_set 12 = .ok (.getfield 48, 3) := by decide +kernel
theorem dX7_set_15 : decode cX7_set 15 = .ok (.aload_n 0, 1) := by decide +kernel
theorem dX7_set_16 : decode cX7_set 16 = .ok (.getfield 21, 3) := by decide +kernel
theorem dX7_set_19 : decode cX7_set 19 = .ok (.iload_n 1, 1) := by decide +kernel
theorem dX7_set_20 : decode cX7_set 20 = .ok (.iload_n 2, 1) := by decide +kernel
theorem dX7_set_21 : decode cX7_set 21 = .ok (.invokevirtual 116, 3) := by decide +kernel
theorem dX7_set_24 : decode cX7_set 24 = .ok (.invokevirtual 73, 3) := by decide +kernel
theorem dX7_set_27 : decode cX7_set 27 = .ok (.ireturn, 1) := by decide +kernel
theorem dX7_save_0 : decode cX7_save 0 = .ok (.aload_n 0, 1) := by decide +kernel
theorem dX7_save_1 : decode cX7_save 1 = .ok (.getfield 52, 3) := by decide +kernel
theorem dX7_save_4 : decode cX7_save 4 = .ok (.aload_n 0, 1) := by decide +kernel
theorem dX7_save_5 : decode cX7_save 5 = .ok (.getfield 10, 3) := by decide +kernel
theorem dX7_save_8 : decode cX7_save 8 = .ok (.invokevirtual 152, 3) := by decide +kernel
theorem dX7_save_11 : decode cX7_save 11 = .ok (.aload_n 0, 1) := by decide +kernel
theorem dX7_save_12 : decode cX7_save 12 = .ok (.iconst 1, 1) := by decide +kernel
theorem dX7_save_13 : decode cX7_save 13 = .ok (.putfield 55, 3) := by decide +kernel
theorem dX7_save_16 : decode cX7_save 16 = .ok (.aload_n 0, 1) := by decide +kernel
theorem dX7_save_17 : decode cX7_save 17 = .ok (.getfield 10, 3) := by decide +kernel
theorem dX7_save_20 : decode cX7_save 20 = .ok (.getfield 155, 3) := by decide +kernel
theorem dX7_save_23 : decode cX7_save 23 = .ok (.ireturn, 1) := by decide +kernel
theorem dX7_restore_0 : decode cX7_restore 0 = .ok (.aload_n 0, 1) := by decide +kernel
theorem dX7_restore_1 : decode cX7_restore 1 = .ok (.getfield 55, 3) := by decide +kernel
theorem dX7_restore_4 : decode cX7_restore 4 = .ok (.ifCond .ne 6, 3) := by decide +kernel
theorem dX7_restore_7 : decode cX7_restore 7 = .ok (.bipush (-4), 2) := by decide +kernel
theorem dX7_restore_9 : decode cX7_restore 9 = .ok (.ireturn, 1) := by decide +kernel
theorem dX7_restore_10 : decode cX7_restore 10 = .ok (.aload_n 0, 1) := by decide +kernel
theorem dX7_restore_11 : decode cX7_restore 11 = .ok (.getfield 48, 3) := by decide +kernel
theorem dX7_restore_14 : decode cX7_restore 14 = .ok (.aload_n 0, 1) := by decide +kernel
theorem dX7_restore_15 : decode cX7_restore 15 = .ok (.getfield 10, 3) := by decide +kernel
theorem dX7_restore_18 : decode cX7_restore 18 = .ok (.invokevirtual 66, 3) := by decide +kernel
theorem dX7_restore_21 : decode cX7_restore 21 = .ok (.aload_n 0, 1) := by decide +kernel
theorem dX7_restore_22 : decode cX7_restore 22 = .ok (.getfield 10, 3) := by decide +kernel
theorem dX7_restore_25 : decode cX7_restore 25 = .ok (.aload_n 0, 1) := by decide +kernel
theorem dX7_restore_26 : decode cX7_restore 26 = .ok (.getfield 52, 3) := by decide +kernel
theorem dX7_restore_29 : decode cX7_restore 29 = .ok (.invokevirtual 152, 3) := by decide +kernel
theorem dX7_restore_32 : decode cX7_restore 32 = .ok (.aload_n 0, 1) := by decide +kernel
theorem dX7_restore_33 : decode cX7_restore 33 = .ok (.getfield 48, 3) := by decide +kernel
theorem dX7_restore_36 : decode cX7_restore 36 = .ok (.aload_n 0, 1) := by decide +kernel
theorem dX7_restore_37 : decode cX7_restore 37 = .ok (.getfield 10, 3) := by decide +kernel
theorem dX7_restore_40 : decode cX7_restore 40 = .ok (.getfield 155, 3) := by decide +kernel
theorem dX7_restore_43 : decode cX7_restore 43 = .ok (.invokevirtual 73, 3) := by decide +kernel
theorem dX7_restore_46 : decode cX7_restore 46 = .ok (.ireturn, 1) := by decide +kernel
theorem dX7_result_0 : decode cX7_result 0 = .ok (.aload_n 0, 1) := by decide +kernel
theorem dX7_result_1 : decode cX7_result 1 = .ok (.getfield 10, 3) := by decide +kernel
theorem dX7_result_4 : decode cX7_result 4 = .ok (.iload_n 1, 1) := by decide +kernel
theorem dX7_result_5 : decode cX7_result 5 = .ok (.invokevirtual 159, 3) := by decide +kernel
theorem dX7_result_8 : decode cX7_result 8 = .ok (.ifCond .eq 14, 3) := by decide +kernel
theorem dX7_result_11 : decode cX7_result 11 = .ok (.aload_n 0, 1) := by decide +kernel
theorem dX7_result_12 : decode cX7_result 12 = .ok (.getfield 10, 3) := by decide +kernel
theorem dX7_result_15 : decode cX7_result 15 = .ok (.iload_n 2, 1) := by decide +kernel
theorem dX7_result_16 : decode cX7_result 16 = .ok (.invokevirtual 162, 3) := by decide +kernel
theorem dX7_result_19 : decode cX7_result 19 = .ok (.ifCond .ne 5, 3) := by decide +kernel
theorem dX7_result_22 : decode cX7_result 22 = .ok (.iconst (-1), 1) := by decide +kernel
theorem dX7_result_23 : decode cX7_result 23 = .ok (.ireturn, 1) := by decide +kernel
theorem dX7_result_24 : decode cX7_result 24 = .ok (.iload_n 3, 1) := by decide +kernel
theorem dX7_result_25 : decode cX7_result 25 = .ok (.tableswitch 144 0 8 #[51, 51, 51, 51, 51, 72, 82, 92, 118], 51) := by decide +kernel
theorem dX7_result_76 : decode cX7_result 76 = .ok (.aload_n 0, 1) := by decide +kernel
theorem dX7_result_77 : decode cX7_result 77 = .ok (.getfield 10, 3) := by decide +kernel
theorem dX7_result_80 : decode cX7_result 80 = .ok (.getfield 165, 3) := by decide +kernel
theorem dX7_result_83 : decode cX7_result 83 = .ok (.aload_n 0, 1) := by decide +kernel
theorem dX7_result_84 : decode cX7_result 84 = .ok (.getfield 10, 3) := by decide +kernel
theorem dX7_result_87 : decode cX7_result 87 = .ok (.iload_n 1, 1) := by decide +kernel
theorem dX7_result_88 : decode cX7_result 88 = .ok (.iload_n 2, 1) := by decide +kernel
theorem dX7_result_89 : decode cX7_result 89 = .ok (.invokevirtual 169, 3) := by decide +kernel
theorem dX7_result_92 : decode cX7_result 92 = .ok (.iload_n 3, 1) := by decide +kernel
theorem dX7_result_93 : decode cX7_result 93 = .ok (.invokevirtual 172, 3) := by decide +kernel
theorem dX7_result_96 : decode cX7_result 96 = .ok (.ireturn, 1) := by decide +kernel
theorem dX7_result_97 : decode cX7_result 97 = .ok (.aload_n 0, 1) := by decide +kernel
theorem dX7_result_98 : decode cX7_result 98 = .ok (.getfield 10, 3) := by decide +kernel
theorem dX7_result_101 : decode cX7_result 101 = .ok (.iload_n 1, 1) := by decide +kernel
theorem dX7_result_102 : decode cX7_result 102 = .ok (.iload_n 2, 1) := by decide +kernel
theorem dX7_result_103 : decode cX7_result 103 = .ok (.invokevirtual 177, 3) := by decide +kernel
theorem dX7_result_106 : decode cX7_result 106 = .ok (.ireturn, 1) := by decide +kernel
theorem dX7_result_107 : decode cX7_result 107 = .ok (.aload_n 0, 1) := by decide +kernel
theorem dX7_result_108 : decode cX7_result 108 = .ok (.getfield 10, 3) := by decide +kernel
theorem dX7_result_111 : decode cX7_result 111 = .ok (.iload_n 1, 1) := by decide +kernel
theorem dX7_result_112 : decode cX7_result 112 = .ok (.iload_n 2, 1) := by decide +kernel
theorem dX7_result_113 : decode cX7_result 113 = .ok (.invokevirtual 180, 3) := by decide +kernel
theorem dX7_result_116 : decode cX7_result 116 = .ok (.ireturn, 1) := by decide +kernel
theorem dX7_result_117 : decode cX7_result 117 = .ok (.aload_n 0, 1) := by decide +kernel
theorem dX7_result_118 : decode cX7_result 118 = .ok (.getfield 10, 3) := by decide +kernel
theorem dX7_result_121 : decode cX7_result 121 = .ok (.iload_n 1, 1) := by decide +kernel
theorem dX7_result_122 : decode cX7_result 122 = .ok (.invokevirtual 183, 3) := by decide +kernel
theorem dX7_result_125 : decode cX7_result 125 = .ok (.ifCond .eq 15, 3) := by decide +kernel
theorem dX7_result_128 : decode cX7_result 128 = .ok (.aload_n 0, 1) := by decide +kernel
theorem dX7_result_129 : decode cX7_result 129 = .ok (.getfield 35, 3) := by decide +kernel
theorem dX7_result_132 : decode cX7_result 132 = .ok (.iload_n 1, 1) := by decide +kernel
theorem dX7_result_133 : decode cX7_result 133 = .ok (.iload_n 2, 1) := by decide +kernel
theorem dX7_result_134 : decode cX7_result 134 = .ok (.invokevirtual 186, 3) := by decide +kernel
theorem dX7_result_137 : decode cX7_result 137 = .ok (.goto 5, 3) := by decide +kernel
theorem dX7_result_140 : decode cX7_result 140 = .ok (.bipush (-5), 2) := by decide +kernel
theorem dX7_result_142 : decode cX7_result 142 = .ok (.ireturn, 1) := by decide +kernel
theorem dX7_result_143 : decode cX7_result 143 = .ok (.aload_n 0, 1) := by decide +kernel
theorem dX7_result_144 : decode cX7_result 144 = .ok (.getfield 10, 3) := by decide +kernel
theorem dX7_result_147 : decode cX7_result 147 = .ok (.iload_n 1, 1) := by decide +kernel
theorem dX7_result_148 : decode cX7_result 148 = .ok (.invokevirtual 183, 3) := by decide +kernel
theorem dX7_result_151 : decode cX7_result 151 = .ok (.ifCond .eq 15, 3) := by decide +kernel
theorem dX7_result_154 : decode cX7_result 154 = .ok (.aload_n 0, 1) := by decide +kernel
theorem dX7_result_155 : decode cX7_result 155 = .ok (.getfield 35, 3) := by decide +kernel
theorem dX7_result_158 : decode cX7_result 158 = .ok (.iload_n 1, 1) := by decide +kernel
theorem dX7_result_159 : decode cX7_result 159 = .ok (.iload_n 2, 1) := by decide +kernel
theorem dX7_result_160 : decode cX7_result 160 = .ok (.invokevirtual 189, 3) := by decide +kernel
theorem dX7_result_163 : decode cX7_result 163 = .ok (.goto 5, 3) := by decide +kernel
theorem dX7_result_166 : decode cX7_result 166 = .ok (.bipush (-5), 2) := by decide +kernel
theorem dX7_result_168 : decode cX7_result 168 = .ok (.ireturn, 1) := by decide +kernel
theorem dX7_result_169 : decode cX7_result 169 = .ok (.bipush (-2), 2) := by decide +kernel
theorem dX7_result_171 : decode cX7_result 171 = .ok (.ireturn, 1) := by decide +kernel
theorem dX7_boat_0 : decode cX7_boat 0 = .ok (.aload_n 0, 1) := by decide +kernel
theorem dX7_boat_1 : decode cX7_boat 1 = .ok (.getfield 10, 3) := by decide +kernel
theorem dX7_boat_4 : decode cX7_boat 4 = .ok (.iload_n 1, 1) := by decide +kernel
theorem dX7_boat_5 : decode cX7_boat 5 = .ok (.invokevirtual 162, 3) := by decide +kernel
theorem dX7_boat_8 : decode cX7_boat 8 = .ok (.ifCond .ne 5, 3) := by decide +kernel
theorem dX7_boat_11 : decode cX7_boat 11 = .ok (.iconst (-1), 1) := by decide +kernel
theorem dX7_boat_12 : decode cX7_boat 12 = .ok (.ireturn, 1) := by decide +kernel
theorem dX7_boat_13 : decode cX7_boat 13 = .ok (.aload_n 0, 1) := by decide +kernel
theorem dX7_boat_14 : decode cX7_boat 14 = .ok (.getfield 35, 3) := by decide +kernel
theorem dX7_boat_17 : decode cX7_boat 17 = .ok (.invokevirtual 192, 3) := by decide +kernel
theorem dX7_boat_20 : decode cX7_boat 20 = .ok (.iload_n 2, 1) := by decide +kernel
theorem dX7_boat_21 : decode cX7_boat 21 = .ok (.tableswitch 84 0 4 #[35, 48, 57, 66, 75], 35) := by decide +kernel
theorem dX7_boat_56 : decode cX7_boat 56 = .ok (.aload_n 0, 1) := by decide +kernel
theorem dX7_boat_57 : decode cX7_boat 57 = .ok (.getfield 10, 3) := by decide +kernel
theorem dX7_boat_60 : decode cX7_boat 60 = .ok (.getfield 195, 3) := by decide +kernel
theorem dX7_boat_63 : decode cX7_boat 63 = .ok (.iload_n 1, 1) := by decide +kernel
theorem dX7_boat_64 : decode cX7_boat 64 = .ok (.iconst 0, 1) := by decide +kernel
theorem dX7_boat_65 : decode cX7_boat 65 = .ok (.invokevirtual 172, 3) := by decide +kernel
theorem dX7_boat_68 : decode cX7_boat 68 = .ok (.ireturn, 1) := by decide +kernel
theorem dX7_boat_69 : decode cX7_boat 69 = .ok (.aload_n 0, 1) := by decide +kernel
theorem dX7_boat_70 : decode cX7_boat 70 = .ok (.getfield 35, 3) := by decide +kernel
theorem dX7_boat_73 : decode cX7_boat 73 = .ok (.iload_n 1, 1) := by decide +kernel
theorem dX7_boat_74 : decode cX7_boat 74 = .ok (.invokevirtual 198, 3) := by decide +kernel
theorem dX7_boat_77 : decode cX7_boat 77 = .ok (.ireturn, 1) := by decide +kernel
theorem dX7_boat_78 : decode cX7_boat 78 = .ok (.aload_n 0, 1) := by decide +kernel
theorem dX7_boat_79 : decode cX7_boat 79 = .ok (.getfield 35, 3) := by decide +kernel
theorem dX7_boat_82 : decode cX7_boat 82 = .ok (.iload_n 1, 1) := by decide +kernel
theorem dX7_boat_83 : decode cX7_boat 83 = .ok (.invokevirtual 201, 3) := by decide +kernel
theorem dX7_boat_86 : decode cX7_boat 86 = .ok (.ireturn, 1) := by decide +kernel
theorem dX7_boat_87 : decode cX7_boat 87 = .ok (.aload_n 0, 1) := by decide +kernel
theorem dX7_boat_88 : decode cX7_boat 88 = .ok (.getfield 35, 3) := by decide +kernel
theorem dX7_boat_91 : decode cX7_boat 91 = .ok (.iload_n 1, 1) := by decide +kernel
theorem dX7_boat_92 : decode cX7_boat 92 = .ok (.invokevirtual 204, 3) := by decide +kernel
theorem dX7_boat_95 : decode cX7_boat 95 = .ok (.ireturn, 1) := by decide +kernel
theorem dX7_boat_96 : decode cX7_boat 96 = .ok (.aload_n 0, 1) := by decide +kernel
theorem dX7_boat_97 : decode cX7_boat 97 = .ok (.getfield 35, 3) := by decide +kernel
theorem dX7_boat_100 : decode cX7_boat 100 = .ok (.iload_n 1, 1) := by decide +kernel
theorem dX7_boat_101 : decode cX7_boat 101 = .ok (.invokevirtual 207, 3) := by decide +kernel
theorem dX7_boat_104 : decode cX7_boat 104 = .ok (.ireturn, 1) := by decide +kernel
theorem dX7_boat_105 : decode cX7_boat 105 = .ok (.bipush (-2), 2) := by decide +kernel
theorem dX7_boat_107 : decode cX7_boat 107 = .ok (.ireturn, 1) := by decide +kernel
theorem dX7_ranked_0 : decode cX7_ranked 0 = .ok (.iload_n 1, 1) := by decide +kernel
theorem dX7_ranked_1 : decode cX7_ranked 1 = .ok (.iconst 1, 1) := by decide +kernel
theorem dX7_ranked_2 : decode cX7_ranked 2 = .ok (.if_icmp .ge 6, 3) := by decide +kernel
theorem dX7_ranked_5 : decode cX7_ranked 5 = .ok (.bipush (-2), 2) := by decide +kernel
theorem dX7_ranked_7 : decode cX7_ranked 7 = .ok (.ireturn, 1) := by decide +kernel
theorem dX7_ranked_8 : decode cX7_ranked 8 = .ok (.aload_n 0, 1) := by decide +kernel
theorem dX7_ranked_9 : decode cX7_ranked 9 = .ok (.getfield 35, 3) := by decide +kernel
theorem dX7_ranked_12 : decode cX7_ranked 12 = .ok (.invokevirtual 192, 3) := by decide +kernel
theorem dX7_ranked_15 : decode cX7_ranked 15 = .ok (.iconst 0, 1) := by decide +kernel
theorem dX7_ranked_16 : decode cX7_ranked 16 = .ok (.istore_n 2, 1) := by decide +kernel
theorem dX7_ranked_17 : decode cX7_ranked 17 = .ok (.iload_n 2, 1) := by decide +kernel
theorem dX7_ranked_18 : decode cX7_ranked 18 = .ok (.aload_n 0, 1) := by decide +kernel
theorem dX7_ranked_19 : decode cX7_ranked 19 = .ok (.getfield 10, 3) := by decide +kernel
theorem dX7_ranked_22 : decode cX7_ranked 22 = .ok (.getfield 210, 3) := by decide +kernel
theorem dX7_ranked_25 : decode cX7_ranked 25 = .ok (.if_icmp .ge 23, 3) := by decide +kernel
theorem dX7_ranked_28 : decode cX7_ranked 28 = .ok (.aload_n 0, 1) := by decide +kernel
theorem dX7_ranked_29 : decode cX7_ranked 29 = .ok (.getfield 35, 3) := by decide +kernel
theorem dX7_ranked_32 : decode cX7_ranked 32 = .ok (.iload_n 2, 1) := by decide +kernel
theorem dX7_ranked_33 : decode cX7_ranked 33 = .ok (.invokevirtual 201, 3) := by decide +kernel
theorem dX7_ranked_36 : decode cX7_ranked 36 = .ok (.iload_n 1, 1) := by decide +kernel
theorem dX7_ranked_37 : decode cX7_ranked 37 = .ok (.if_icmp .ne 5, 3) := by decide +kernel
theorem dX7_ranked_40 : decode cX7_ranked 40 = .ok (.iload_n 2, 1) := by decide +kernel
theorem dX7_ranked_41 : decode cX7_ranked 41 = .ok (.ireturn, 1) := by decide +kernel
theorem dX7_ranked_42 : decode cX7_ranked 42 = .ok (.iinc 2 1, 3) := by decide +kernel
theorem dX7_ranked_45 : decode cX7_ranked 45 = .ok (.goto (-28), 3) := by decide +kernel
theorem dX7_ranked_48 : decode cX7_ranked 48 = .ok (.bipush (-5), 2) := by decide +kernel
theorem dX7_ranked_50 : decode cX7_ranked 50 = .ok (.ireturn, 1) := by decide +kernel
theorem dX7_race_0 : decode cX7_race 0 = .ok (.aload_n 0, 1) := by decide +kernel
theorem dX7_race_1 : decode cX7_race 1 = .ok (.getfield 10, 3) := by decide +kernel
theorem dX7_race_4 : decode cX7_race 4 = .ok (.iload_n 1, 1) := by decide +kernel
theorem dX7_race_5 : decode cX7_race 5 = .ok (.invokevirtual 159, 3) := by decide +kernel
theorem dX7_race_8 : decode cX7_race 8 = .ok (.ifCond .ne 5, 3) := by decide +kernel
theorem dX7_race_11 : decode cX7_race 11 = .ok (.iconst (-1), 1) := by decide +kernel
theorem dX7_race_12 : decode cX7_race 12 = .ok (.ireturn, 1) := by decide +kernel
theorem dX7_race_13 : decode cX7_race 13 = .ok (.iload_n 2, 1) := by decide +kernel
theorem dX7_race_14 : decode cX7_race 14 = .ok (.tableswitch 103 0 6 #[42, 42, 42, 55, 72, 83, 94], 42) := by decide +kernel
theorem dX7_race_56 : decode cX7_race 56 = .ok (.aload_n 0, 1) := by decide +kernel
theorem dX7_race_57 : decode cX7_race 57 = .ok (.getfield 10, 3) := by decide +kernel
theorem dX7_race_60 : decode cX7_race 60 = .ok (.getfield 213, 3) := by decide +kernel
theorem dX7_race_63 : decode cX7_race 63 = .ok (.iload_n 1, 1) := by decide +kernel
theorem dX7_race_64 : decode cX7_race 64 = .ok (.iload_n 2, 1) := by decide +kernel
theorem dX7_race_65 : decode cX7_race 65 = .ok (.invokevirtual 172, 3) := by decide +kernel
theorem dX7_race_68 : decode cX7_race 68 = .ok (.ireturn, 1) := by decide +kernel
theorem dX7_race_69 : decode cX7_race 69 = .ok (.aload_n 0, 1) := by decide +kernel
theorem dX7_race_70 : decode cX7_race 70 = .ok (.getfield 10, 3) := by decide +kernel
theorem dX7_race_73 : decode cX7_race 73 = .ok (.iload_n 1, 1) := by decide +kernel
theorem dX7_race_74 : decode cX7_race 74 = .ok (.invokevirtual 183, 3) := by decide +kernel
theorem dX7_race_77 : decode cX7_race 77 = .ok (.ifCond .eq 7, 3) := by decide +kernel
theorem dX7_race_80 : decode cX7_race 80 = .ok (.iconst 2, 1) := by decide +kernel
theorem dX7_race_81 : decode cX7_race 81 = .ok (.goto 4, 3) := by decide +kernel
theorem dX7_race_84 : decode cX7_race 84 = .ok (.iconst 1, 1) := by decide +kernel
theorem dX7_race_85 : decode cX7_race 85 = .ok (.ireturn, 1) := by decide +kernel
theorem dX7_race_86 : decode cX7_race 86 = .ok (.aload_n 0, 1) := by decide +kernel
theorem dX7_race_87 : decode cX7_race 87 = .ok (.getfield 10, 3) := by decide +kernel
theorem dX7_race_90 : decode cX7_race 90 = .ok (.iload_n 1, 1) := by decide +kernel
theorem dX7_race_91 : decode cX7_race 91 = .ok (.iconst 0, 1) := by decide +kernel
theorem dX7_race_92 : decode cX7_race 92 = .ok (.iconst 3, 1) := by decide +kernel
theorem dX7_race_93 : decode cX7_race 93 = .ok (.invokevirtual 216, 3) := by decide +kernel
theorem dX7_race_96 : decode cX7_race 96 = .ok (.ireturn, 1) := by decide +kernel
theorem dX7_race_97 : decode cX7_race 97 = .ok (.aload_n 0, 1) := by decide +kernel
theorem dX7_race_98 : decode cX7_race 98 = .ok (.getfield 10, 3) := by decide +kernel
theorem dX7_race_101 : decode cX7_race 101 = .ok (.iload_n 1, 1) := by decide +kernel
theorem dX7_race_102 : decode cX7_race 102 = .ok (.iconst 4, 1) := by decide +kernel
theorem dX7_race_103 : decode cX7_race 103 = .ok (.iconst 1, 1) := by decide +kernel
theorem dX7_race_104 : decode cX7_race 104 = .ok (.invokevirtual 216, 3) := by decide +kernel
theorem dX7_race_107 : decode cX7_race 107 = .ok (.ireturn, 1) := by decide +kernel
theorem dX7_race_108 : decode cX7_race 108 = .ok (.aload_n 0, 1) := by decide +kernel
theorem dX7_race_109 : decode cX7_race 109 = .ok (.getfield 35, 3) := by decide +kernel
theorem dX7_race_112 : decode cX7_race 112 = .ok (.iload_n 1, 1) := by decide +kernel
theorem dX7_race_113 : decode cX7_race 113 = .ok (.invokevirtual 219, 3) := by decide +kernel
theorem dX7_race_116 : decode cX7_race 116 = .ok (.ireturn, 1) := by decide +kernel
theorem dX7_race_117 : decode cX7_race 117 = .ok (.bipush (-2), 2) := by decide +kernel
theorem dX7_race_119 : decode cX7_race 119 = .ok (.ireturn, 1) := by decide +kernel
theorem dX7_protest_0 : decode cX7_protest 0 = .ok (.aload_n 0, 1) := by decide +kernel
theorem dX7_protest_1 : decode cX7_protest 1 = .ok (.getfield 10, 3) := by decide +kernel
theorem dX7_protest_4 : decode cX7_protest 4 = .ok (.iload_n 1, 1) := by decide +kernel
theorem dX7_protest_5 : decode cX7_protest 5 = .ok (.invokevirtual 222, 3) := by decide +kernel
theorem dX7_protest_8 : decode cX7_protest 8 = .ok (.ifCond .ne 5, 3) := by decide +kernel
theorem dX7_protest_11 : decode cX7_protest 11 = .ok (.iconst (-1), 1) := by decide +kernel
theorem dX7_protest_12 : decode cX7_protest 12 = .ok (.ireturn, 1) := by decide +kernel
theorem dX7_protest_13 : decode cX7_protest 13 = .ok (.iload_n 2, 1) := by decide +kernel
theorem dX7_protest_14 : decode cX7_protest 14 = .ok (.ifCond .lt 8, 3) := by decide +kernel
theorem dX7_protest_17 : decode cX7_protest 17 = .ok (.iload_n 2, 1) := by decide +kernel
theorem dX7_protest_18 : decode cX7_protest 18 = .ok (.iconst 3, 1) := by decide +kernel
theorem dX7_protest_19 : decode cX7_protest 19 = .ok (.if_icmp .le 6, 3) := by decide +kernel
theorem dX7_protest_22 : decode cX7_protest 22 = .ok (.bipush (-2), 2) := by decide +kernel
theorem dX7_protest_24 : decode cX7_protest 24 = .ok (.ireturn, 1) := by decide +kernel
theorem dX7_protest_25 : decode cX7_protest 25 = .ok (.aload_n 0, 1) := by decide +kernel
theorem dX7_protest_26 : decode cX7_protest 26 = .ok (.getfield 10, 3) := by decide +kernel
theorem dX7_protest_29 : decode cX7_protest 29 = .ok (.getfield 225, 3) := by decide +kernel
theorem dX7_protest_32 : decode cX7_protest 32 = .ok (.iload_n 1, 1) := by decide +kernel
theorem dX7_protest_33 : decode cX7_protest 33 = .ok (.iload_n 2, 1) := by decide +kernel
theorem dX7_protest_34 : decode cX7_protest 34 = .ok (.invokevirtual 172, 3) := by decide +kernel
theorem dX7_protest_37 : decode cX7_protest 37 = .ok (.ireturn, 1) := by decide +kernel
theorem dX7_count_0 : decode cX7_count 0 = .ok (.iload_n 1, 1) := by decide +kernel
theorem dX7_count_1 : decode cX7_count 1 = .ok (.tableswitch 150 0 10 #[59, 67, 75, 83, 91, 99, 107, 116, 125, 134, 142], 59) := by decide +kernel
theorem dX7_count_60 : decode cX7_count 60 = .ok (.aload_n 0, 1) := by decide +kernel
theorem dX7_count_61 : decode cX7_count 61 = .ok (.getfield 10, 3) := by decide +kernel
theorem dX7_count_64 : decode cX7_count 64 = .ok (.getfield 210, 3) := by decide +kernel
theorem dX7_count_67 : decode cX7_count 67 = .ok (.ireturn, 1) := by decide +kernel
theorem dX7_count_68 : decode cX7_count 68 = .ok (.aload_n 0, 1) := by decide +kernel
theorem dX7_count_69 : decode cX7_count 69 = .ok (.getfield 10, 3) := by decide +kernel
theorem dX7_count_72 : decode cX7_count 72 = .ok (.getfield 228, 3) := by decide +kernel
theorem dX7_count_75 : decode cX7_count 75 = .ok (.ireturn, 1) := by decide +kernel
theorem dX7_count_76 : decode cX7_count 76 = .ok (.aload_n 0, 1) := by decide +kernel
theorem dX7_count_77 : decode cX7_count 77 = .ok (.getfield 10, 3) := by decide +kernel
theorem dX7_count_80 : decode cX7_count 80 = .ok (.invokevirtual 231, 3) := by decide +kernel
theorem dX7_count_83 : decode cX7_count 83 = .ok (.ireturn, 1) := by decide +kernel
theorem dX7_count_84 : decode cX7_count 84 = .ok (.aload_n 0, 1) := by decide +kernel
theorem dX7_count_85 : decode cX7_count 85 = .ok (.getfield 10, 3) := by decide +kernel
theorem dX7_count_88 : decode cX7_count 88 = .ok (.getfield 155, 3) := by decide +kernel
theorem dX7_count_91 : decode cX7_count 91 = .ok (.ireturn, 1) := by decide +kernel
theorem dX7_count_92 : decode cX7_count 92 = .ok (.aload_n 0, 1) := by decide +kernel
theorem dX7_count_93 : decode cX7_count 93 = .ok (.getfield 10, 3) := by decide +kernel
theorem dX7_count_96 : decode cX7_count 96 = .ok (.getfield 234, 3) := by decide +kernel
theorem dX7_count_99 : decode cX7_count 99 = .ok (.ireturn, 1) := by decide +kernel
theorem dX7_count_100 : decode cX7_count 100 = .ok (.aload_n 0, 1) := by decide +kernel
theorem dX7_count_101 : decode cX7_count 101 = .ok (.getfield 10, 3) := by decide +kernel
theorem dX7_count_104 : decode cX7_count 104 = .ok (.getfield 237, 3) := by decide +kernel
theorem dX7_count_107 : decode cX7_count 107 = .ok (.ireturn, 1) := by decide +kernel
theorem dX7_count_108 : decode cX7_count 108 = .ok (.aload_n 0, 1) := by decide +kernel
theorem dX7_count_109 : decode cX7_count 109 = .ok (.getfield 10, 3) := by decide +kernel
theorem dX7_count_112 : decode cX7_count 112 = .ok (.iconst 0, 1) := by decide +kernel
theorem dX7_count_113 : decode cX7_count 113 = .ok (.invokevirtual 240, 3) := by decide +kernel
theorem dX7_count_116 : decode cX7_count 116 = .ok (.ireturn, 1) := by decide +kernel
theorem dX7_count_117 : decode cX7_count 117 = .ok (.aload_n 0, 1) := by decide +kernel
theorem dX7_count_118 : decode cX7_count 118 = .ok (.getfield 10, 3) := by decide +kernel
theorem dX7_count_121 : decode cX7_count 121 = .ok (.iconst 1, 1) := by decide +kernel
theorem dX7_count_122 : decode cX7_count 122 = .ok (.invokevirtual 240, 3) := by decide +kernel
theorem dX7_count_125 : decode cX7_count 125 = .ok (.ireturn, 1) := by decide +kernel
theorem dX7_count_126 : decode cX7_count 126 = .ok (.aload_n 0, 1) := by decide +kernel
