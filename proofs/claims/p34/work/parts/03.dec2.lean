theorem dX7_count_127 : decode cX7_count 127 = .ok (.getfield 10, 3) := by decide +kernel
theorem dX7_count_130 : decode cX7_count 130 = .ok (.iconst 2, 1) := by decide +kernel
theorem dX7_count_131 : decode cX7_count 131 = .ok (.invokevirtual 240, 3) := by decide +kernel
theorem dX7_count_134 : decode cX7_count 134 = .ok (.ireturn, 1) := by decide +kernel
theorem dX7_count_135 : decode cX7_count 135 = .ok (.aload_n 0, 1) := by decide +kernel
theorem dX7_count_136 : decode cX7_count 136 = .ok (.getfield 48, 3) := by decide +kernel
theorem dX7_count_139 : decode cX7_count 139 = .ok (.invokevirtual 243, 3) := by decide +kernel
theorem dX7_count_142 : decode cX7_count 142 = .ok (.ireturn, 1) := by decide +kernel
theorem dX7_count_143 : decode cX7_count 143 = .ok (.aload_n 0, 1) := by decide +kernel
theorem dX7_count_144 : decode cX7_count 144 = .ok (.getfield 62, 3) := by decide +kernel
theorem dX7_count_147 : decode cX7_count 147 = .ok (.invokevirtual 128, 3) := by decide +kernel
theorem dX7_count_150 : decode cX7_count 150 = .ok (.ireturn, 1) := by decide +kernel
theorem dX7_count_151 : decode cX7_count 151 = .ok (.bipush (-2), 2) := by decide +kernel
theorem dX7_count_153 : decode cX7_count 153 = .ok (.ireturn, 1) := by decide +kernel
theorem dX7_placeNow_0 : decode cX7_placeNow 0 = .ok (.aload_n 0, 1) := by decide +kernel
theorem dX7_placeNow_1 : decode cX7_placeNow 1 = .ok (.getfield 10, 3) := by decide +kernel
theorem dX7_placeNow_4 : decode cX7_placeNow 4 = .ok (.iload_n 1, 1) := by decide +kernel
theorem dX7_placeNow_5 : decode cX7_placeNow 5 = .ok (.invokevirtual 162, 3) := by decide +kernel
theorem dX7_placeNow_8 : decode cX7_placeNow 8 = .ok (.ifCond .ne 5, 3) := by decide +kernel
theorem dX7_placeNow_11 : decode cX7_placeNow 11 = .ok (.iconst (-1), 1) := by decide +kernel
theorem dX7_placeNow_12 : decode cX7_placeNow 12 = .ok (.ireturn, 1) := by decide +kernel
theorem dX7_placeNow_13 : decode cX7_placeNow 13 = .ok (.aload_n 0, 1) := by decide +kernel
theorem dX7_placeNow_14 : decode cX7_placeNow 14 = .ok (.getfield 10, 3) := by decide +kernel
theorem dX7_placeNow_17 : decode cX7_placeNow 17 = .ok (.invokevirtual 246, 3) := by decide +kernel
theorem dX7_placeNow_20 : decode cX7_placeNow 20 = .ok (.ifCond .ne 6, 3) := by decide +kernel
theorem dX7_placeNow_23 : decode cX7_placeNow 23 = .ok (.bipush (-4), 2) := by decide +kernel
theorem dX7_placeNow_25 : decode cX7_placeNow 25 = .ok (.ireturn, 1) := by decide +kernel
theorem dX7_placeNow_26 : decode cX7_placeNow 26 = .ok (.aload_n 0, 1) := by decide +kernel
theorem dX7_placeNow_27 : decode cX7_placeNow 27 = .ok (.getfield 35, 3) := by decide +kernel
theorem dX7_placeNow_30 : decode cX7_placeNow 30 = .ok (.aload_n 0, 1) := by decide +kernel
theorem dX7_placeNow_31 : decode cX7_placeNow 31 = .ok (.getfield 10, 3) := by decide +kernel
theorem dX7_placeNow_34 : decode cX7_placeNow 34 = .ok (.invokevirtual 250, 3) := by decide +kernel
theorem dX7_placeNow_37 : decode cX7_placeNow 37 = .ok (.iload_n 1, 1) := by decide +kernel
theorem dX7_placeNow_38 : decode cX7_placeNow 38 = .ok (.invokevirtual 186, 3) := by decide +kernel
theorem dX7_placeNow_41 : decode cX7_placeNow 41 = .ok (.ireturn, 1) := by decide +kernel
theorem dX7_secondsLeft_0 : decode cX7_secondsLeft 0 = .ok (.aload_n 0, 1) := by decide +kernel
theorem dX7_secondsLeft_1 : decode cX7_secondsLeft 1 = .ok (.getfield 10, 3) := by decide +kernel
theorem dX7_secondsLeft_4 : decode cX7_secondsLeft 4 = .ok (.iload_n 1, 1) := by decide +kernel
theorem dX7_secondsLeft_5 : decode cX7_secondsLeft 5 = .ok (.invokevirtual 162, 3) := by decide +kernel
theorem dX7_secondsLeft_8 : decode cX7_secondsLeft 8 = .ok (.ifCond .ne 5, 3) := by decide +kernel
theorem dX7_secondsLeft_11 : decode cX7_secondsLeft 11 = .ok (.iconst (-1), 1) := by decide +kernel
theorem dX7_secondsLeft_12 : decode cX7_secondsLeft 12 = .ok (.ireturn, 1) := by decide +kernel
theorem dX7_secondsLeft_13 : decode cX7_secondsLeft 13 = .ok (.aload_n 0, 1) := by decide +kernel
theorem dX7_secondsLeft_14 : decode cX7_secondsLeft 14 = .ok (.getfield 10, 3) := by decide +kernel
theorem dX7_secondsLeft_17 : decode cX7_secondsLeft 17 = .ok (.invokevirtual 246, 3) := by decide +kernel
theorem dX7_secondsLeft_20 : decode cX7_secondsLeft 20 = .ok (.ifCond .eq 16, 3) := by decide +kernel
theorem dX7_secondsLeft_23 : decode cX7_secondsLeft 23 = .ok (.aload_n 0, 1) := by decide +kernel
theorem dX7_secondsLeft_24 : decode cX7_secondsLeft 24 = .ok (.getfield 10, 3) := by decide +kernel
theorem dX7_secondsLeft_27 : decode cX7_secondsLeft 27 = .ok (.iload_n 1, 1) := by decide +kernel
theorem dX7_secondsLeft_28 : decode cX7_secondsLeft 28 = .ok (.iconst 0, 1) := by decide +kernel
theorem dX7_secondsLeft_29 : decode cX7_secondsLeft 29 = .ok (.invokevirtual 253, 3) := by decide +kernel
theorem dX7_secondsLeft_32 : decode cX7_secondsLeft 32 = .ok (.iconst 2, 1) := by decide +kernel
theorem dX7_secondsLeft_33 : decode cX7_secondsLeft 33 = .ok (.if_icmp .eq 6, 3) := by decide +kernel
theorem dX7_secondsLeft_36 : decode cX7_secondsLeft 36 = .ok (.bipush (-4), 2) := by decide +kernel
theorem dX7_secondsLeft_38 : decode cX7_secondsLeft 38 = .ok (.ireturn, 1) := by decide +kernel
theorem dX7_secondsLeft_39 : decode cX7_secondsLeft 39 = .ok (.aload_n 0, 1) := by decide +kernel
theorem dX7_secondsLeft_40 : decode cX7_secondsLeft 40 = .ok (.getfield 35, 3) := by decide +kernel
theorem dX7_secondsLeft_43 : decode cX7_secondsLeft 43 = .ok (.iload_n 1, 1) := by decide +kernel
theorem dX7_secondsLeft_44 : decode cX7_secondsLeft 44 = .ok (.invokevirtual 256, 3) := by decide +kernel
theorem dX7_secondsLeft_47 : decode cX7_secondsLeft 47 = .ok (.ireturn, 1) := by decide +kernel
theorem dX7_rankIfDisqualified_0 : decode cX7_rankIfDisqualified 0 = .ok (.aload_n 0, 1) := by decide +kernel
theorem dX7_rankIfDisqualified_1 : decode cX7_rankIfDisqualified 1 = .ok (.getfield 10, 3) := by decide +kernel
theorem dX7_rankIfDisqualified_4 : decode cX7_rankIfDisqualified 4 = .ok (.iload_n 1, 1) := by decide +kernel
theorem dX7_rankIfDisqualified_5 : decode cX7_rankIfDisqualified 5 = .ok (.invokevirtual 162, 3) := by decide +kernel
theorem dX7_rankIfDisqualified_8 : decode cX7_rankIfDisqualified 8 = .ok (.ifCond .eq 14, 3) := by decide +kernel
theorem dX7_rankIfDisqualified_11 : decode cX7_rankIfDisqualified 11 = .ok (.aload_n 0, 1) := by decide +kernel
theorem dX7_rankIfDisqualified_12 : decode cX7_rankIfDisqualified 12 = .ok (.getfield 10, 3) := by decide +kernel
theorem dX7_rankIfDisqualified_15 : decode cX7_rankIfDisqualified 15 = .ok (.iload_n 2, 1) := by decide +kernel
theorem dX7_rankIfDisqualified_16 : decode cX7_rankIfDisqualified 16 = .ok (.invokevirtual 159, 3) := by decide +kernel
theorem dX7_rankIfDisqualified_19 : decode cX7_rankIfDisqualified 19 = .ok (.ifCond .ne 5, 3) := by decide +kernel
theorem dX7_rankIfDisqualified_22 : decode cX7_rankIfDisqualified 22 = .ok (.iconst (-1), 1) := by decide +kernel
theorem dX7_rankIfDisqualified_23 : decode cX7_rankIfDisqualified 23 = .ok (.ireturn, 1) := by decide +kernel
theorem dX7_rankIfDisqualified_24 : decode cX7_rankIfDisqualified 24 = .ok (.aload_n 0, 1) := by decide +kernel
theorem dX7_rankIfDisqualified_25 : decode cX7_rankIfDisqualified 25 = .ok (.getfield 10, 3) := by decide +kernel
theorem dX7_rankIfDisqualified_28 : decode cX7_rankIfDisqualified 28 = .ok (.iload_n 2, 1) := by decide +kernel
theorem dX7_rankIfDisqualified_29 : decode cX7_rankIfDisqualified 29 = .ok (.invokevirtual 183, 3) := by decide +kernel
theorem dX7_rankIfDisqualified_32 : decode cX7_rankIfDisqualified 32 = .ok (.ifCond .ne 6, 3) := by decide +kernel
theorem dX7_rankIfDisqualified_35 : decode cX7_rankIfDisqualified 35 = .ok (.bipush (-4), 2) := by decide +kernel
theorem dX7_rankIfDisqualified_37 : decode cX7_rankIfDisqualified 37 = .ok (.ireturn, 1) := by decide +kernel
theorem dX7_rankIfDisqualified_38 : decode cX7_rankIfDisqualified 38 = .ok (.aload_n 0, 1) := by decide +kernel
theorem dX7_rankIfDisqualified_39 : decode cX7_rankIfDisqualified 39 = .ok (.getfield 39, 3) := by decide +kernel
theorem dX7_rankIfDisqualified_42 : decode cX7_rankIfDisqualified 42 = .ok (.aload_n 0, 1) := by decide +kernel
theorem dX7_rankIfDisqualified_43 : decode cX7_rankIfDisqualified 43 = .ok (.getfield 10, 3) := by decide +kernel
theorem dX7_rankIfDisqualified_46 : decode cX7_rankIfDisqualified 46 = .ok (.invokevirtual 152, 3) := by decide +kernel
theorem dX7_rankIfDisqualified_49 : decode cX7_rankIfDisqualified 49 = .ok (.aload_n 0, 1) := by decide +kernel
theorem dX7_rankIfDisqualified_50 : decode cX7_rankIfDisqualified 50 = .ok (.getfield 39, 3) := by decide +kernel
theorem dX7_rankIfDisqualified_53 : decode cX7_rankIfDisqualified 53 = .ok (.getfield 165, 3) := by decide +kernel
theorem dX7_rankIfDisqualified_56 : decode cX7_rankIfDisqualified 56 = .ok (.aload_n 0, 1) := by decide +kernel
theorem dX7_rankIfDisqualified_57 : decode cX7_rankIfDisqualified 57 = .ok (.getfield 39, 3) := by decide +kernel
theorem dX7_rankIfDisqualified_60 : decode cX7_rankIfDisqualified 60 = .ok (.iload_n 2, 1) := by decide +kernel
theorem dX7_rankIfDisqualified_61 : decode cX7_rankIfDisqualified 61 = .ok (.iload_n 1, 1) := by decide +kernel
theorem dX7_rankIfDisqualified_62 : decode cX7_rankIfDisqualified 62 = .ok (.invokevirtual 169, 3) := by decide +kernel
theorem dX7_rankIfDisqualified_65 : decode cX7_rankIfDisqualified 65 = .ok (.iconst 4, 1) := by decide +kernel
theorem dX7_rankIfDisqualified_66 : decode cX7_rankIfDisqualified 66 = .ok (.iconst 1, 1) := by decide +kernel
theorem dX7_rankIfDisqualified_67 : decode cX7_rankIfDisqualified 67 = .ok (.invokevirtual 259, 3) := by decide +kernel
theorem dX7_rankIfDisqualified_70 : decode cX7_rankIfDisqualified 70 = .ok (.aload_n 0, 1) := by decide +kernel
theorem dX7_rankIfDisqualified_71 : decode cX7_rankIfDisqualified 71 = .ok (.getfield 42, 3) := by decide +kernel
theorem dX7_rankIfDisqualified_74 : decode cX7_rankIfDisqualified 74 = .ok (.invokevirtual 192, 3) := by decide +kernel
theorem dX7_rankIfDisqualified_77 : decode cX7_rankIfDisqualified 77 = .ok (.aload_n 0, 1) := by decide +kernel
theorem dX7_rankIfDisqualified_78 : decode cX7_rankIfDisqualified 78 = .ok (.getfield 42, 3) := by decide +kernel
theorem dX7_rankIfDisqualified_81 : decode cX7_rankIfDisqualified 81 = .ok (.iload_n 1, 1) := by decide +kernel
theorem dX7_rankIfDisqualified_82 : decode cX7_rankIfDisqualified 82 = .ok (.invokevirtual 201, 3) := by decide +kernel
theorem dX7_rankIfDisqualified_85 : decode cX7_rankIfDisqualified 85 = .ok (.ireturn, 1) := by decide +kernel
theorem dX7_mean_0 : decode cX7_mean 0 = .ok (.aload_n 0, 1) := by decide +kernel
theorem dX7_mean_1 : decode cX7_mean 1 = .ok (.getfield 10, 3) := by decide +kernel
theorem dX7_mean_4 : decode cX7_mean 4 = .ok (.invokevirtual 231, 3) := by decide +kernel
theorem dX7_mean_7 : decode cX7_mean 7 = .ok (.istore_n 2, 1) := by decide +kernel
theorem dX7_mean_8 : decode cX7_mean 8 = .ok (.aload_n 0, 1) := by decide +kernel
theorem dX7_mean_9 : decode cX7_mean 9 = .ok (.getfield 10, 3) := by decide +kernel
theorem dX7_mean_12 : decode cX7_mean 12 = .ok (.iload_n 1, 1) := by decide +kernel
theorem dX7_mean_13 : decode cX7_mean 13 = .ok (.invokevirtual 162, 3) := by decide +kernel
theorem dX7_mean_16 : decode cX7_mean 16 = .ok (.ifCond .eq 7, 3) := by decide +kernel
theorem dX7_mean_19 : decode cX7_mean 19 = .ok (.iload_n 2, 1) := by decide +kernel
theorem dX7_mean_20 : decode cX7_mean 20 = .ok (.ifCond .gt 5, 3) := by decide +kernel
theorem dX7_mean_23 : decode cX7_mean 23 = .ok (.fconst 0, 1) := by decide +kernel
theorem dX7_mean_24 : decode cX7_mean 24 = .ok (.freturn, 1) := by decide +kernel
theorem dX7_mean_25 : decode cX7_mean 25 = .ok (.aload_n 0, 1) := by decide +kernel
theorem dX7_mean_26 : decode cX7_mean 26 = .ok (.getfield 35, 3) := by decide +kernel
theorem dX7_mean_29 : decode cX7_mean 29 = .ok (.invokevirtual 192, 3) := by decide +kernel
theorem dX7_mean_32 : decode cX7_mean 32 = .ok (.aload_n 0, 1) := by decide +kernel
theorem dX7_mean_33 : decode cX7_mean 33 = .ok (.getfield 35, 3) := by decide +kernel
theorem dX7_mean_36 : decode cX7_mean 36 = .ok (.iload_n 1, 1) := by decide +kernel
theorem dX7_mean_37 : decode cX7_mean 37 = .ok (.invokevirtual 263, 3) := by decide +kernel
theorem dX7_mean_40 : decode cX7_mean 40 = .ok (.i2f, 1) := by decide +kernel
theorem dX7_mean_41 : decode cX7_mean 41 = .ok (.iload_n 2, 1) := by decide +kernel
theorem dX7_mean_42 : decode cX7_mean 42 = .ok (.i2f, 1) := by decide +kernel
theorem dX7_mean_43 : decode cX7_mean 43 = .ok (.fdiv, 1) := by decide +kernel
theorem dX7_mean_44 : decode cX7_mean 44 = .ok (.freturn, 1) := by decide +kernel
theorem dJ5_init_d00df_0 : decode cJ5_init_d00df 0 = .ok (.aload_n 0, 1) := by decide +kernel
theorem dJ5_init_d00df_1 : decode cJ5_init_d00df 1 = .ok (.invokespecial 3, 3) := by decide +kernel
theorem dJ5_init_d00df_4 : decode cJ5_init_d00df 4 = .ok (.getstatic 18, 3) := by decide +kernel
theorem dJ5_init_d00df_7 : decode cJ5_init_d00df 7 = .ok (.ifCond .eq 18, 3) := by decide +kernel
theorem dJ5_init_d00df_10 : decode cJ5_init_d00df 10 = .ok (.aload_n 0, 1) := by decide +kernel
theorem dJ5_init_d00df_11 : decode cJ5_init_d00df 11 = .ok (.iload_n 1, 1) := by decide +kernel
theorem dJ5_init_d00df_12 : decode cJ5_init_d00df 12 = .ok (.newarray .byte, 2) := by decide +kernel
theorem dJ5_init_d00df_14 : decode cJ5_init_d00df 14 = .ok (.putfield 15, 3) := by decide +kernel
theorem dJ5_init_d00df_17 : decode cJ5_init_d00df 17 = .ok (.aload_n 0, 1) := by decide +kernel
theorem dJ5_init_d00df_18 : decode cJ5_init_d00df 18 = .ok (.iconst 0, 1) := by decide +kernel
theorem dJ5_init_d00df_19 : decode cJ5_init_d00df 19 = .ok (.putfield 22, 3) := by decide +kernel
theorem dJ5_init_d00df_22 : decode cJ5_init_d00df 22 = .ok (.goto 16, 3) := by decide +kernel
theorem dJ5_init_d00df_25 : decode cJ5_init_d00df 25 = .ok (.aload_n 0, 1) := by decide +kernel
theorem dJ5_init_d00df_26 : decode cJ5_init_d00df 26 = .ok (.iload_n 1, 1) := by decide +kernel
theorem dJ5_init_d00df_27 : decode cJ5_init_d00df 27 = .ok (.invokestatic 26, 3) := by decide +kernel
theorem dJ5_init_d00df_30 : decode cJ5_init_d00df 30 = .ok (.putfield 15, 3) := by decide +kernel
theorem dJ5_init_d00df_33 : decode cJ5_init_d00df 33 = .ok (.aload_n 0, 1) := by decide +kernel
theorem dJ5_init_d00df_34 : decode cJ5_init_d00df 34 = .ok (.iconst 1, 1) := by decide +kernel
theorem dJ5_init_d00df_35 : decode cJ5_init_d00df 35 = .ok (.putfield 22, 3) := by decide +kernel
theorem dJ5_init_d00df_38 : decode cJ5_init_d00df 38 = .ok (.return_, 1) := by decide +kernel
theorem dJ5_length_8abf5_0 : decode cJ5_length_8abf5 0 = .ok (.aload_n 0, 1) := by decide +kernel
theorem dJ5_length_8abf5_1 : decode cJ5_length_8abf5 1 = .ok (.getfield 79, 3) := by decide +kernel
theorem dJ5_length_8abf5_4 : decode cJ5_length_8abf5 4 = .ok (.ireturn, 1) := by decide +kernel
theorem dJ9_floorDiv_7cf53_0 : decode cJ9_floorDiv_7cf53 0 = .ok (.iload_n 0, 1) := by decide +kernel
theorem dJ9_floorDiv_7cf53_1 : decode cJ9_floorDiv_7cf53 1 = .ok (.iload_n 1, 1) := by decide +kernel
theorem dJ9_floorDiv_7cf53_2 : decode cJ9_floorDiv_7cf53 2 = .ok (.idiv, 1) := by decide +kernel
theorem dJ9_floorDiv_7cf53_3 : decode cJ9_floorDiv_7cf53 3 = .ok (.istore_n 2, 1) := by decide +kernel
theorem dJ9_floorDiv_7cf53_4 : decode cJ9_floorDiv_7cf53 4 = .ok (.iload_n 0, 1) := by decide +kernel
theorem dJ9_floorDiv_7cf53_5 : decode cJ9_floorDiv_7cf53 5 = .ok (.iload_n 1, 1) := by decide +kernel
theorem dJ9_floorDiv_7cf53_6 : decode cJ9_floorDiv_7cf53 6 = .ok (.ixor, 1) := by decide +kernel
theorem dJ9_floorDiv_7cf53_7 : decode cJ9_floorDiv_7cf53 7 = .ok (.ifCond .ge 14, 3) := by decide +kernel
theorem dJ9_floorDiv_7cf53_10 : decode cJ9_floorDiv_7cf53 10 = .ok (.iload_n 2, 1) := by decide +kernel
theorem dJ9_floorDiv_7cf53_11 : decode cJ9_floorDiv_7cf53 11 = .ok (.iload_n 1, 1) := by decide +kernel
theorem dJ9_floorDiv_7cf53_12 : decode cJ9_floorDiv_7cf53 12 = .ok (.imul, 1) := by decide +kernel
theorem dJ9_floorDiv_7cf53_13 : decode cJ9_floorDiv_7cf53 13 = .ok (.iload_n 0, 1) := by decide +kernel
theorem dJ9_floorDiv_7cf53_14 : decode cJ9_floorDiv_7cf53 14 = .ok (.if_icmp .eq 7, 3) := by decide +kernel
theorem dJ9_floorDiv_7cf53_17 : decode cJ9_floorDiv_7cf53 17 = .ok (.iload_n 2, 1) := by decide +kernel
theorem dJ9_floorDiv_7cf53_18 : decode cJ9_floorDiv_7cf53 18 = .ok (.iconst 1, 1) := by decide +kernel
theorem dJ9_floorDiv_7cf53_19 : decode cJ9_floorDiv_7cf53 19 = .ok (.isub, 1) := by decide +kernel
theorem dJ9_floorDiv_7cf53_20 : decode cJ9_floorDiv_7cf53 20 = .ok (.ireturn, 1) := by decide +kernel
theorem dJ9_floorDiv_7cf53_21 : decode cJ9_floorDiv_7cf53 21 = .ok (.iload_n 2, 1) := by decide +kernel
theorem dJ9_floorDiv_7cf53_22 : decode cJ9_floorDiv_7cf53 22 = .ok (.ireturn, 1) := by decide +kernel
theorem dJ9_max_7cf53_0 : decode cJ9_max_7cf53 0 = .ok (.iload_n 0, 1) := by decide +kernel
theorem dJ9_max_7cf53_1 : decode cJ9_max_7cf53 1 = .ok (.iload_n 1, 1) := by decide +kernel
theorem dJ9_max_7cf53_2 : decode cJ9_max_7cf53 2 = .ok (.if_icmp .lt 7, 3) := by decide +kernel
theorem dJ9_max_7cf53_5 : decode cJ9_max_7cf53 5 = .ok (.iload_n 0, 1) := by decide +kernel
theorem dJ9_max_7cf53_6 : decode cJ9_max_7cf53 6 = .ok (.goto 4, 3) := by decide +kernel
theorem dJ9_max_7cf53_9 : decode cJ9_max_7cf53 9 = .ok (.iload_n 1, 1) := by decide +kernel
theorem dJ9_max_7cf53_10 : decode cJ9_max_7cf53 10 = .ok (.ireturn, 1) := by decide +kernel
theorem dJ9_min_7cf53_0 : decode cJ9_min_7cf53 0 = .ok (.iload_n 0, 1) := by decide +kernel
theorem dJ9_min_7cf53_1 : decode cJ9_min_7cf53 1 = .ok (.iload_n 1, 1) := by decide +kernel
theorem dJ9_min_7cf53_2 : decode cJ9_min_7cf53 2 = .ok (.if_icmp .gt 7, 3) := by decide +kernel
theorem dJ9_min_7cf53_5 : decode cJ9_min_7cf53 5 = .ok (.iload_n 0, 1) := by decide +kernel
theorem dJ9_min_7cf53_6 : decode cJ9_min_7cf53 6 = .ok (.goto 4, 3) := by decide +kernel
theorem dJ9_min_7cf53_9 : decode cJ9_min_7cf53 9 = .ok (.iload_n 1, 1) := by decide +kernel
theorem dJ9_min_7cf53_10 : decode cJ9_min_7cf53 10 = .ok (.ireturn, 1) := by decide +kernel
theorem dJ4_init_da8c8_0 : decode cJ4_init_da8c8 0 = .ok (.aload_n 0, 1) := by decide +kernel
theorem dJ4_init_da8c8_1 : decode cJ4_init_da8c8 1 = .ok (.bipush 16, 2) := by decide +kernel
theorem dJ4_init_da8c8_3 : decode cJ4_init_da8c8 3 = .ok (.invokespecial 1, 3) := by decide +kernel
theorem dJ4_init_da8c8_6 : decode cJ4_init_da8c8 6 = .ok (.return_, 1) := by decide +kernel
theorem dJ4_length_8abf5_0 : decode cJ4_length_8abf5 0 = .ok (.aload_n 0, 1) := by decide +kernel
theorem dJ4_length_8abf5_1 : decode cJ4_length_8abf5 1 = .ok (.invokespecial 343, 3) := by decide +kernel
theorem dJ4_length_8abf5_4 : decode cJ4_length_8abf5 4 = .ok (.ireturn, 1) := by decide +kernel
theorem dJ2_newBytesFor_77867_0 : decode cJ2_newBytesFor_77867 0 = .ok (.iload_n 0, 1) := by decide +kernel
theorem dJ2_newBytesFor_77867_1 : decode cJ2_newBytesFor_77867 1 = .ok (.invokestatic 11, 3) := by decide +kernel
theorem dJ2_newBytesFor_77867_4 : decode cJ2_newBytesFor_77867 4 = .ok (.newarray .byte, 2) := by decide +kernel
theorem dJ2_newBytesFor_77867_6 : decode cJ2_newBytesFor_77867 6 = .ok (.areturn, 1) := by decide +kernel
theorem dJ2_newBytesLength_0f7a4_0 : decode cJ2_newBytesLength_0f7a4 0 = .ok (.iload_n 0, 1) := by decide +kernel
theorem dJ2_newBytesLength_0f7a4_1 : decode cJ2_newBytesLength_0f7a4 1 = .ok (.ifCond .ge 11, 3) := by decide +kernel
theorem dJ2_newBytesLength_0f7a4_4 : decode cJ2_newBytesLength_0f7a4 4 = .ok (.new 17, 3) := by decide +kernel
theorem dJ2_newBytesLength_0f7a4_7 : decode cJ2_newBytesLength_0f7a4 7 = .ok (.dup, 1) := by decide +kernel
theorem dJ2_newBytesLength_0f7a4_8 : decode cJ2_newBytesLength_0f7a4 8 = .ok (.invokespecial 19, 3) := by decide +kernel
theorem dJ2_newBytesLength_0f7a4_11 : decode cJ2_newBytesLength_0f7a4 11 = .ok (.athrow, 1) := by decide +kernel
theorem dJ2_newBytesLength_0f7a4_12 : decode cJ2_newBytesLength_0f7a4 12 = .ok (.iload_n 0, 1) := by decide +kernel
theorem dJ2_newBytesLength_0f7a4_13 : decode cJ2_newBytesLength_0f7a4 13 = .ok (.ldc 20, 2) := by decide +kernel
theorem dJ2_newBytesLength_0f7a4_15 : decode cJ2_newBytesLength_0f7a4 15 = .ok (.if_icmp .lt 40, 3) := by decide +kernel
theorem dJ2_newBytesLength_0f7a4_18 : decode cJ2_newBytesLength_0f7a4 18 = .ok (.new 21, 3) := by decide +kernel
theorem dJ2_newBytesLength_0f7a4_21 : decode cJ2_newBytesLength_0f7a4 21 = .ok (.dup, 1) := by decide +kernel
theorem dJ2_newBytesLength_0f7a4_22 : decode cJ2_newBytesLength_0f7a4 22 = .ok (.new 23, 3) := by decide +kernel
theorem dJ2_newBytesLength_0f7a4_25 : decode cJ2_newBytesLength_0f7a4 25 = .ok (.dup, 1) := by decide +kernel
theorem dJ2_newBytesLength_0f7a4_26 : decode cJ2_newBytesLength_0f7a4 26 = .ok (.invokespecial 25, 3) := by decide +kernel
theorem dJ2_newBytesLength_0f7a4_29 : decode cJ2_newBytesLength_0f7a4 29 = .ok (.ldc 26, 2) := by decide +kernel
theorem dJ2_newBytesLength_0f7a4_31 : decode cJ2_newBytesLength_0f7a4 31 = .ok (.invokevirtual 28, 3) := by decide +kernel
theorem dJ2_newBytesLength_0f7a4_34 : decode cJ2_newBytesLength_0f7a4 34 = .ok (.iload_n 0, 1) := by decide +kernel
theorem dJ2_newBytesLength_0f7a4_35 : decode cJ2_newBytesLength_0f7a4 35 = .ok (.invokevirtual 32, 3) := by decide +kernel
theorem dJ2_newBytesLength_0f7a4_38 : decode cJ2_newBytesLength_0f7a4 38 = .ok (.ldc 35, 2) := by decide +kernel
theorem dJ2_newBytesLength_0f7a4_40 : decode cJ2_newBytesLength_0f7a4 40 = .ok (.invokevirtual 28, 3) := by decide +kernel
theorem dJ2_newBytesLength_0f7a4_43 : decode cJ2_newBytesLength_0f7a4 43 = .ok (.ldc 20, 2) := by decide +kernel
theorem dJ2_newBytesLength_0f7a4_45 : decode cJ2_newBytesLength_0f7a4 45 = .ok (.invokevirtual 32, 3) := by decide +kernel
theorem dJ2_newBytesLength_0f7a4_48 : decode cJ2_newBytesLength_0f7a4 48 = .ok (.invokevirtual 37, 3) := by decide +kernel
theorem dJ2_newBytesLength_0f7a4_51 : decode cJ2_newBytesLength_0f7a4 51 = .ok (.invokespecial 41, 3) := by decide +kernel
theorem dJ2_newBytesLength_0f7a4_54 : decode cJ2_newBytesLength_0f7a4 54 = .ok (.athrow, 1) := by decide +kernel
theorem dJ2_newBytesLength_0f7a4_55 : decode cJ2_newBytesLength_0f7a4 55 = .ok (.iload_n 0, 1) := by decide +kernel
theorem dJ2_newBytesLength_0f7a4_56 : decode cJ2_newBytesLength_0f7a4 56 = .ok (.iconst 1, 1) := by decide +kernel
theorem dJ2_newBytesLength_0f7a4_57 : decode cJ2_newBytesLength_0f7a4 57 = .ok (.ishl, 1) := by decide +kernel
theorem dJ2_newBytesLength_0f7a4_58 : decode cJ2_newBytesLength_0f7a4 58 = .ok (.ireturn, 1) := by decide +kernel
theorem dL_cell_0 : decode cL_cell 0 = .ok (.iload_n 1, 1) := by decide +kernel
theorem dL_cell_1 : decode cL_cell 1 = .ok (.aload_n 0, 1) := by decide +kernel
theorem dL_cell_2 : decode cL_cell 2 = .ok (.arraylength, 1) := by decide +kernel
theorem dL_cell_3 : decode cL_cell 3 = .ok (.if_icmp .ge 9, 3) := by decide +kernel
theorem dL_cell_6 : decode cL_cell 6 = .ok (.aload_n 0, 1) := by decide +kernel
theorem dL_cell_7 : decode cL_cell 7 = .ok (.iload_n 1, 1) := by decide +kernel
theorem dL_cell_8 : decode cL_cell 8 = .ok (.iaload, 1) := by decide +kernel
theorem dL_cell_9 : decode cL_cell 9 = .ok (.goto 12, 3) := by decide +kernel
theorem dL_cell_12 : decode cL_cell 12 = .ok (.ldc 7, 2) := by decide +kernel
theorem dL_cell_14 : decode cL_cell 14 = .ok (.iload_n 1, 1) := by decide +kernel
theorem dL_cell_15 : decode cL_cell 15 = .ok (.iconst 5, 1) := by decide +kernel
theorem dL_cell_16 : decode cL_cell 16 = .ok (.iadd, 1) := by decide +kernel
theorem dL_cell_17 : decode cL_cell 17 = .ok (.imul, 1) := by decide +kernel
theorem dL_cell_18 : decode cL_cell 18 = .ok (.ldc 8, 2) := by decide +kernel
theorem dL_cell_20 : decode cL_cell 20 = .ok (.iadd, 1) := by decide +kernel
theorem dL_cell_21 : decode cL_cell 21 = .ok (.ireturn, 1) := by decide +kernel
theorem dL_low_0 : decode cL_low 0 = .ok (.iload_n 0, 1) := by decide +kernel
theorem dL_low_1 : decode cL_low 1 = .ok (.ldc 9, 2) := by decide +kernel
theorem dL_low_3 : decode cL_low 3 = .ok (.iand, 1) := by decide +kernel
theorem dL_low_4 : decode cL_low 4 = .ok (.iload_n 1, 1) := by decide +kernel
theorem dL_low_5 : decode cL_low 5 = .ok (.irem, 1) := by decide +kernel
theorem dL_low_6 : decode cL_low 6 = .ok (.ireturn, 1) := by decide +kernel
theorem dL_isEntry_0 : decode cL_isEntry 0 = .ok (.aload_n 0, 1) := by decide +kernel
theorem dL_isEntry_1 : decode cL_isEntry 1 = .ok (.iload_n 1, 1) := by decide +kernel
theorem dL_isEntry_2 : decode cL_isEntry 2 = .ok (.iload_n 2, 1) := by decide +kernel
theorem dL_isEntry_3 : decode cL_isEntry 3 = .ok (.iconst 0, 1) := by decide +kernel
theorem dL_isEntry_4 : decode cL_isEntry 4 = .ok (.invokevirtual 10, 3) := by decide +kernel
theorem dL_isEntry_7 : decode cL_isEntry 7 = .ok (.istore_n 3, 1) := by decide +kernel
theorem dL_isEntry_8 : decode cL_isEntry 8 = .ok (.aload_n 0, 1) := by decide +kernel
theorem dL_isEntry_9 : decode cL_isEntry 9 = .ok (.iload_n 1, 1) := by decide +kernel
theorem dL_isEntry_10 : decode cL_isEntry 10 = .ok (.iload_n 2, 1) := by decide +kernel
theorem dL_isEntry_11 : decode cL_isEntry 11 = .ok (.bipush 6, 2) := by decide +kernel
theorem dL_isEntry_13 : decode cL_isEntry 13 = .ok (.invokevirtual 10, 3) := by decide +kernel
theorem dL_isEntry_16 : decode cL_isEntry 16 = .ok (.istore 4, 2) := by decide +kernel
theorem dL_isEntry_18 : decode cL_isEntry 18 = .ok (.aload_n 0, 1) := by decide +kernel
theorem dL_isEntry_19 : decode cL_isEntry 19 = .ok (.iload_n 1, 1) := by decide +kernel
theorem dL_isEntry_20 : decode cL_isEntry 20 = .ok (.iload_n 2, 1) := by decide +kernel
theorem dL_isEntry_21 : decode cL_isEntry 21 = .ok (.bipush 7, 2) := by decide +kernel
theorem dL_isEntry_23 : decode cL_isEntry 23 = .ok (.invokevirtual 10, 3) := by decide +kernel
theorem dL_isEntry_26 : decode cL_isEntry 26 = .ok (.istore 5, 2) := by decide +kernel
theorem dL_isEntry_28 : decode cL_isEntry 28 = .ok (.aload_n 0, 1) := by decide +kernel
theorem dL_isEntry_29 : decode cL_isEntry 29 = .ok (.iload_n 1, 1) := by decide +kernel
theorem dL_isEntry_30 : decode cL_isEntry 30 = .ok (.iload_n 2, 1) := by decide +kernel
theorem dL_isEntry_31 : decode cL_isEntry 31 = .ok (.bipush 8, 2) := by decide +kernel
theorem dL_isEntry_33 : decode cL_isEntry 33 = .ok (.invokevirtual 10, 3) := by decide +kernel
theorem dL_isEntry_36 : decode cL_isEntry 36 = .ok (.istore 6, 2) := by decide +kernel
theorem dL_isEntry_38 : decode cL_isEntry 38 = .ok (.aload_n 0, 1) := by decide +kernel
theorem dL_isEntry_39 : decode cL_isEntry 39 = .ok (.iload_n 1, 1) := by decide +kernel
theorem dL_isEntry_40 : decode cL_isEntry 40 = .ok (.iconst 3, 1) := by decide +kernel
theorem dL_isEntry_41 : decode cL_isEntry 41 = .ok (.invokevirtual 16, 3) := by decide +kernel
theorem dL_isEntry_44 : decode cL_isEntry 44 = .ok (.iconst 2, 1) := by decide +kernel
theorem dL_isEntry_45 : decode cL_isEntry 45 = .ok (.if_icmp .ne 7, 3) := by decide +kernel
theorem dL_isEntry_48 : decode cL_isEntry 48 = .ok (.iconst 1, 1) := by decide +kernel
theorem dL_isEntry_49 : decode cL_isEntry 49 = .ok (.goto 4, 3) := by decide +kernel
theorem dL_isEntry_52 : decode cL_isEntry 52 = .ok (.iconst 0, 1) := by decide +kernel
theorem dL_isEntry_53 : decode cL_isEntry 53 = .ok (.istore 7, 2) := by decide +kernel
theorem dL_isEntry_55 : decode cL_isEntry 55 = .ok (.aload_n 0, 1) := by decide +kernel
theorem dL_isEntry_56 : decode cL_isEntry 56 = .ok (.iload_n 1, 1) := by decide +kernel
theorem dL_isEntry_57 : decode cL_isEntry 57 = .ok (.iconst 0, 1) := by decide +kernel
theorem dL_isEntry_58 : decode cL_isEntry 58 = .ok (.invokevirtual 16, 3) := by decide +kernel
theorem dL_isEntry_61 : decode cL_isEntry 61 = .ok (.aload_n 0, 1) := by decide +kernel
theorem dL_isEntry_62 : decode cL_isEntry 62 = .ok (.iload_n 1, 1) := by decide +kernel
theorem dL_isEntry_63 : decode cL_isEntry 63 = .ok (.iconst 1, 1) := by decide +kernel
theorem dL_isEntry_64 : decode cL_isEntry 64 = .ok (.invokevirtual 16, 3) := by decide +kernel
theorem dL_isEntry_67 : decode cL_isEntry 67 = .ok (.imul, 1) := by decide +kernel
theorem dL_isEntry_68 : decode cL_isEntry 68 = .ok (.istore 8, 2) := by decide +kernel
theorem dL_isEntry_70 : decode cL_isEntry 70 = .ok (.iconst 0, 1) := by decide +kernel
theorem dL_isEntry_71 : decode cL_isEntry 71 = .ok (.istore 9, 2) := by decide +kernel
theorem dL_isEntry_73 : decode cL_isEntry 73 = .ok (.iconst 0, 1) := by decide +kernel
theorem dL_isEntry_74 : decode cL_isEntry 74 = .ok (.istore 10, 2) := by decide +kernel
theorem dL_isEntry_76 : decode cL_isEntry 76 = .ok (.iload 10, 2) := by decide +kernel
theorem dL_isEntry_78 : decode cL_isEntry 78 = .ok (.aload_n 0, 1) := by decide +kernel
theorem dL_isEntry_79 : decode cL_isEntry 79 = .ok (.iconst 0, 1) := by decide +kernel
theorem dL_isEntry_80 : decode cL_isEntry 80 = .ok (.invokevirtual 20, 3) := by decide +kernel
theorem dL_isEntry_83 : decode cL_isEntry 83 = .ok (.if_icmp .ge 56, 3) := by decide +kernel
theorem dL_isEntry_86 : decode cL_isEntry 86 = .ok (.iload 9, 2) := by decide +kernel
theorem dL_isEntry_88 : decode cL_isEntry 88 = .ok (.aload_n 0, 1) := by decide +kernel
theorem dL_isEntry_89 : decode cL_isEntry 89 = .ok (.iload_n 1, 1) := by decide +kernel
theorem dL_isEntry_90 : decode cL_isEntry 90 = .ok (.iload 10, 2) := by decide +kernel
theorem dL_isEntry_92 : decode cL_isEntry 92 = .ok (.iconst 0, 1) := by decide +kernel
theorem dL_isEntry_93 : decode cL_isEntry 93 = .ok (.invokevirtual 10, 3) := by decide +kernel
theorem dL_isEntry_96 : decode cL_isEntry 96 = .ok (.iconst 3, 1) := by decide +kernel
theorem dL_isEntry_97 : decode cL_isEntry 97 = .ok (.if_icmp .ne 32, 3) := by decide +kernel
theorem dL_isEntry_100 : decode cL_isEntry 100 = .ok (.aload_n 0, 1) := by decide +kernel
theorem dL_isEntry_101 : decode cL_isEntry 101 = .ok (.iload_n 1, 1) := by decide +kernel
theorem dL_isEntry_102 : decode cL_isEntry 102 = .ok (.iload 10, 2) := by decide +kernel
theorem dL_isEntry_104 : decode cL_isEntry 104 = .ok (.iconst 4, 1) := by decide +kernel
theorem dL_isEntry_105 : decode cL_isEntry 105 = .ok (.invokevirtual 10, 3) := by decide +kernel
theorem dL_isEntry_108 : decode cL_isEntry 108 = .ok (.ifCond .ne 21, 3) := by decide +kernel
theorem dL_isEntry_111 : decode cL_isEntry 111 = .ok (.aload_n 0, 1) := by decide +kernel
theorem dL_isEntry_112 : decode cL_isEntry 112 = .ok (.iload_n 1, 1) := by decide +kernel
theorem dL_isEntry_113 : decode cL_isEntry 113 = .ok (.iload 10, 2) := by decide +kernel
theorem dL_isEntry_115 : decode cL_isEntry 115 = .ok (.bipush 6, 2) := by decide +kernel
theorem dL_isEntry_117 : decode cL_isEntry 117 = .ok (.invokevirtual 10, 3) := by decide +kernel
theorem dL_isEntry_120 : decode cL_isEntry 120 = .ok (.iload 4, 2) := by decide +kernel
theorem dL_isEntry_122 : decode cL_isEntry 122 = .ok (.if_icmp .ge 7, 3) := by decide +kernel
theorem dL_isEntry_125 : decode cL_isEntry 125 = .ok (.iconst 1, 1) := by decide +kernel
theorem dL_isEntry_126 : decode cL_isEntry 126 = .ok (.goto 4, 3) := by decide +kernel
theorem dL_isEntry_129 : decode cL_isEntry 129 = .ok (.iconst 0, 1) := by decide +kernel
theorem dL_isEntry_130 : decode cL_isEntry 130 = .ok (.iadd, 1) := by decide +kernel
theorem dL_isEntry_131 : decode cL_isEntry 131 = .ok (.istore 9, 2) := by decide +kernel
theorem dL_isEntry_133 : decode cL_isEntry 133 = .ok (.iinc 10 1, 3) := by decide +kernel
theorem dL_isEntry_136 : decode cL_isEntry 136 = .ok (.goto (-60), 3) := by decide +kernel
theorem dL_isEntry_139 : decode cL_isEntry 139 = .ok (.iload_n 3, 1) := by decide +kernel
theorem dL_isEntry_140 : decode cL_isEntry 140 = .ok (.ifCond .lt 138, 3) := by decide +kernel
theorem dL_isEntry_143 : decode cL_isEntry 143 = .ok (.iload_n 3, 1) := by decide +kernel
theorem dL_isEntry_144 : decode cL_isEntry 144 = .ok (.iconst 4, 1) := by decide +kernel
theorem dL_isEntry_145 : decode cL_isEntry 145 = .ok (.if_icmp .gt 133, 3) := by decide +kernel
theorem dL_isEntry_148 : decode cL_isEntry 148 = .ok (.aload_n 0, 1) := by decide +kernel
theorem dL_isEntry_149 : decode cL_isEntry 149 = .ok (.iload_n 1, 1) := by decide +kernel
theorem dL_isEntry_150 : decode cL_isEntry 150 = .ok (.iload_n 2, 1) := by decide +kernel
theorem dL_isEntry_151 : decode cL_isEntry 151 = .ok (.iconst 5, 1) := by decide +kernel
theorem dL_isEntry_152 : decode cL_isEntry 152 = .ok (.invokevirtual 10, 3) := by decide +kernel
theorem dL_isEntry_155 : decode cL_isEntry 155 = .ok (.ifCond .lt 7, 3) := by decide +kernel
theorem dL_isEntry_158 : decode cL_isEntry 158 = .ok (.iconst 1, 1) := by decide +kernel
theorem dL_isEntry_159 : decode cL_isEntry 159 = .ok (.goto 4, 3) := by decide +kernel
theorem dL_isEntry_162 : decode cL_isEntry 162 = .ok (.iconst 0, 1) := by decide +kernel
theorem dL_isEntry_163 : decode cL_isEntry 163 = .ok (.iload_n 3, 1) := by decide +kernel
theorem dL_isEntry_164 : decode cL_isEntry 164 = .ok (.iconst 3, 1) := by decide +kernel
theorem dL_isEntry_165 : decode cL_isEntry 165 = .ok (.if_icmp .ne 7, 3) := by decide +kernel
theorem dL_isEntry_168 : decode cL_isEntry 168 = .ok (.iconst 1, 1) := by decide +kernel
theorem dL_isEntry_169 : decode cL_isEntry 169 = .ok (.goto 4, 3) := by decide +kernel
theorem dL_isEntry_172 : decode cL_isEntry 172 = .ok (.iconst 0, 1) := by decide +kernel
theorem dL_isEntry_173 : decode cL_isEntry 173 = .ok (.if_icmp .ne 105, 3) := by decide +kernel
theorem dL_isEntry_176 : decode cL_isEntry 176 = .ok (.iload_n 3, 1) := by decide +kernel
theorem dL_isEntry_177 : decode cL_isEntry 177 = .ok (.iconst 3, 1) := by decide +kernel
theorem dL_isEntry_178 : decode cL_isEntry 178 = .ok (.if_icmp .ne 28, 3) := by decide +kernel
theorem dL_isEntry_181 : decode cL_isEntry 181 = .ok (.iload 4, 2) := by decide +kernel
theorem dL_isEntry_183 : decode cL_isEntry 183 = .ok (.bipush 100, 2) := by decide +kernel
theorem dL_isEntry_185 : decode cL_isEntry 185 = .ok (.aload_n 0, 1) := by decide +kernel
theorem dL_isEntry_186 : decode cL_isEntry 186 = .ok (.iload_n 1, 1) := by decide +kernel
theorem dL_isEntry_187 : decode cL_isEntry 187 = .ok (.iload_n 2, 1) := by decide +kernel
theorem dL_isEntry_188 : decode cL_isEntry 188 = .ok (.iconst 5, 1) := by decide +kernel
theorem dL_isEntry_189 : decode cL_isEntry 189 = .ok (.invokevirtual 10, 3) := by decide +kernel
theorem dL_isEntry_192 : decode cL_isEntry 192 = .ok (.imul, 1) := by decide +kernel
theorem dL_isEntry_193 : decode cL_isEntry 193 = .ok (.aload_n 0, 1) := by decide +kernel
theorem dL_isEntry_194 : decode cL_isEntry 194 = .ok (.iload_n 2, 1) := by decide +kernel
theorem dL_isEntry_195 : decode cL_isEntry 195 = .ok (.iconst 0, 1) := by decide +kernel
theorem dL_isEntry_196 : decode cL_isEntry 196 = .ok (.invokevirtual 24, 3) := by decide +kernel
theorem dL_isEntry_199 : decode cL_isEntry 199 = .ok (.idiv, 1) := by decide +kernel
theorem dL_isEntry_200 : decode cL_isEntry 200 = .ok (.if_icmp .ne 78, 3) := by decide +kernel
theorem dL_isEntry_203 : decode cL_isEntry 203 = .ok (.goto 22, 3) := by decide +kernel
theorem dL_isEntry_206 : decode cL_isEntry 206 = .ok (.iload 4, 2) := by decide +kernel
theorem dL_isEntry_208 : decode cL_isEntry 208 = .ok (.bipush (-5), 2) := by decide +kernel
theorem dL_isEntry_210 : decode cL_isEntry 210 = .ok (.if_icmp .ne 68, 3) := by decide +kernel
theorem dL_isEntry_213 : decode cL_isEntry 213 = .ok (.aload_n 0, 1) := by decide +kernel
theorem dL_isEntry_214 : decode cL_isEntry 214 = .ok (.iload_n 1, 1) := by decide +kernel
theorem dL_isEntry_215 : decode cL_isEntry 215 = .ok (.iload_n 2, 1) := by decide +kernel
theorem dL_isEntry_216 : decode cL_isEntry 216 = .ok (.iconst 5, 1) := by decide +kernel
theorem dL_isEntry_217 : decode cL_isEntry 217 = .ok (.invokevirtual 10, 3) := by decide +kernel
theorem dL_isEntry_220 : decode cL_isEntry 220 = .ok (.bipush (-5), 2) := by decide +kernel
theorem dL_isEntry_222 : decode cL_isEntry 222 = .ok (.if_icmp .ne 56, 3) := by decide +kernel
theorem dL_isEntry_225 : decode cL_isEntry 225 = .ok (.aload_n 0, 1) := by decide +kernel
theorem dL_isEntry_226 : decode cL_isEntry 226 = .ok (.iload_n 1, 1) := by decide +kernel
theorem dL_isEntry_227 : decode cL_isEntry 227 = .ok (.iload_n 2, 1) := by decide +kernel
theorem dL_isEntry_228 : decode cL_isEntry 228 = .ok (.iconst 1, 1) := by decide +kernel
theorem dL_isEntry_229 : decode cL_isEntry 229 = .ok (.invokevirtual 10, 3) := by decide +kernel
theorem dL_isEntry_232 : decode cL_isEntry 232 = .ok (.iload 8, 2) := by decide +kernel
theorem dL_isEntry_234 : decode cL_isEntry 234 = .ok (.if_icmp .gt 44, 3) := by decide +kernel
theorem dL_isEntry_237 : decode cL_isEntry 237 = .ok (.iload_n 3, 1) := by decide +kernel
theorem dL_isEntry_238 : decode cL_isEntry 238 = .ok (.iconst 3, 1) := by decide +kernel
theorem dL_isEntry_239 : decode cL_isEntry 239 = .ok (.if_icmp .ne 15, 3) := by decide +kernel
theorem dL_isEntry_242 : decode cL_isEntry 242 = .ok (.aload_n 0, 1) := by decide +kernel
theorem dL_isEntry_243 : decode cL_isEntry 243 = .ok (.iload_n 1, 1) := by decide +kernel
theorem dL_isEntry_244 : decode cL_isEntry 244 = .ok (.iload_n 2, 1) := by decide +kernel
theorem dL_isEntry_245 : decode cL_isEntry 245 = .ok (.iconst 1, 1) := by decide +kernel
theorem dL_isEntry_246 : decode cL_isEntry 246 = .ok (.invokevirtual 10, 3) := by decide +kernel
theorem dL_isEntry_249 : decode cL_isEntry 249 = .ok (.iload 8, 2) := by decide +kernel
theorem dL_isEntry_251 : decode cL_isEntry 251 = .ok (.if_icmp .ne 27, 3) := by decide +kernel
theorem dL_isEntry_254 : decode cL_isEntry 254 = .ok (.aload_n 0, 1) := by decide +kernel
theorem dL_isEntry_255 : decode cL_isEntry 255 = .ok (.iload_n 1, 1) := by decide +kernel
theorem dL_isEntry_256 : decode cL_isEntry 256 = .ok (.iload_n 2, 1) := by decide +kernel
theorem dL_isEntry_257 : decode cL_isEntry 257 = .ok (.iconst 2, 1) := by decide +kernel
theorem dL_isEntry_258 : decode cL_isEntry 258 = .ok (.invokevirtual 10, 3) := by decide +kernel
theorem dL_isEntry_261 : decode cL_isEntry 261 = .ok (.ifCond .lt 17, 3) := by decide +kernel
theorem dL_isEntry_264 : decode cL_isEntry 264 = .ok (.aload_n 0, 1) := by decide +kernel
theorem dL_isEntry_265 : decode cL_isEntry 265 = .ok (.iload_n 1, 1) := by decide +kernel
theorem dL_isEntry_266 : decode cL_isEntry 266 = .ok (.iload_n 2, 1) := by decide +kernel
theorem dL_isEntry_267 : decode cL_isEntry 267 = .ok (.iconst 3, 1) := by decide +kernel
theorem dL_isEntry_268 : decode cL_isEntry 268 = .ok (.invokevirtual 10, 3) := by decide +kernel
theorem dL_isEntry_271 : decode cL_isEntry 271 = .ok (.ifCond .lt 7, 3) := by decide +kernel
theorem dL_isEntry_274 : decode cL_isEntry 274 = .ok (.iconst 1, 1) := by decide +kernel
theorem dL_isEntry_275 : decode cL_isEntry 275 = .ok (.goto 4, 3) := by decide +kernel
theorem dL_isEntry_278 : decode cL_isEntry 278 = .ok (.iconst 0, 1) := by decide +kernel
theorem dL_isEntry_279 : decode cL_isEntry 279 = .ok (.istore 10, 2) := by decide +kernel
theorem dL_isEntry_281 : decode cL_isEntry 281 = .ok (.iload_n 3, 1) := by decide +kernel
theorem dL_isEntry_282 : decode cL_isEntry 282 = .ok (.iconst 3, 1) := by decide +kernel
theorem dL_isEntry_283 : decode cL_isEntry 283 = .ok (.if_icmp .ne 22, 3) := by decide +kernel
theorem dL_isEntry_286 : decode cL_isEntry 286 = .ok (.aload_n 0, 1) := by decide +kernel
theorem dL_isEntry_287 : decode cL_isEntry 287 = .ok (.iload_n 1, 1) := by decide +kernel
theorem dL_isEntry_288 : decode cL_isEntry 288 = .ok (.iload_n 2, 1) := by decide +kernel
theorem dL_isEntry_289 : decode cL_isEntry 289 = .ok (.iconst 4, 1) := by decide +kernel
theorem dL_isEntry_290 : decode cL_isEntry 290 = .ok (.invokevirtual 10, 3) := by decide +kernel
theorem dL_isEntry_293 : decode cL_isEntry 293 = .ok (.ifCond .ne 12, 3) := by decide +kernel
theorem dL_isEntry_296 : decode cL_isEntry 296 = .ok (.iload 7, 2) := by decide +kernel
theorem dL_isEntry_298 : decode cL_isEntry 298 = .ok (.ifCond .eq 7, 3) := by decide +kernel
theorem dL_isEntry_301 : decode cL_isEntry 301 = .ok (.iconst 1, 1) := by decide +kernel
theorem dL_isEntry_302 : decode cL_isEntry 302 = .ok (.goto 4, 3) := by decide +kernel
theorem dL_isEntry_305 : decode cL_isEntry 305 = .ok (.iconst 0, 1) := by decide +kernel
theorem dL_isEntry_306 : decode cL_isEntry 306 = .ok (.istore 11, 2) := by decide +kernel
theorem dL_isEntry_308 : decode cL_isEntry 308 = .ok (.iload 10, 2) := by decide +kernel
theorem dL_isEntry_310 : decode cL_isEntry 310 = .ok (.ifCond .eq 103, 3) := by decide +kernel
theorem dL_isEntry_313 : decode cL_isEntry 313 = .ok (.iload 5, 2) := by decide +kernel
theorem dL_isEntry_315 : decode cL_isEntry 315 = .ok (.bipush (-5), 2) := by decide +kernel
theorem dL_isEntry_317 : decode cL_isEntry 317 = .ok (.if_icmp .eq 7, 3) := by decide +kernel
theorem dL_isEntry_320 : decode cL_isEntry 320 = .ok (.iconst 1, 1) := by decide +kernel
theorem dL_isEntry_321 : decode cL_isEntry 321 = .ok (.goto 4, 3) := by decide +kernel
theorem dL_isEntry_324 : decode cL_isEntry 324 = .ok (.iconst 0, 1) := by decide +kernel
theorem dL_isEntry_325 : decode cL_isEntry 325 = .ok (.iload 11, 2) := by decide +kernel
theorem dL_isEntry_327 : decode cL_isEntry 327 = .ok (.if_icmp .ne 86, 3) := by decide +kernel
theorem dL_isEntry_330 : decode cL_isEntry 330 = .ok (.iload 11, 2) := by decide +kernel
theorem dL_isEntry_332 : decode cL_isEntry 332 = .ok (.ifCond .eq 19, 3) := by decide +kernel
theorem dL_isEntry_335 : decode cL_isEntry 335 = .ok (.iload 6, 2) := by decide +kernel
theorem dL_isEntry_337 : decode cL_isEntry 337 = .ok (.iload 5, 2) := by decide +kernel
theorem dL_isEntry_339 : decode cL_isEntry 339 = .ok (.if_icmp .ne 74, 3) := by decide +kernel
theorem dL_isEntry_342 : decode cL_isEntry 342 = .ok (.iload 5, 2) := by decide +kernel
theorem dL_isEntry_344 : decode cL_isEntry 344 = .ok (.iload 9, 2) := by decide +kernel
theorem dL_isEntry_346 : decode cL_isEntry 346 = .ok (.iconst 1, 1) := by decide +kernel
theorem dL_isEntry_347 : decode cL_isEntry 347 = .ok (.iadd, 1) := by decide +kernel
theorem dL_isEntry_348 : decode cL_isEntry 348 = .ok (.if_icmp .ne 65, 3) := by decide +kernel
theorem dL_isEntry_351 : decode cL_isEntry 351 = .ok (.iload 7, 2) := by decide +kernel
theorem dL_isEntry_353 : decode cL_isEntry 353 = .ok (.ifCond .eq 49, 3) := by decide +kernel
theorem dL_isEntry_356 : decode cL_isEntry 356 = .ok (.iload 6, 2) := by decide +kernel
theorem dL_isEntry_358 : decode cL_isEntry 358 = .ok (.iconst 1, 1) := by decide +kernel
theorem dL_isEntry_359 : decode cL_isEntry 359 = .ok (.if_icmp .lt 54, 3) := by decide +kernel
theorem dL_isEntry_362 : decode cL_isEntry 362 = .ok (.iload 6, 2) := by decide +kernel
theorem dL_isEntry_364 : decode cL_isEntry 364 = .ok (.aload_n 0, 1) := by decide +kernel
theorem dL_isEntry_365 : decode cL_isEntry 365 = .ok (.iconst 0, 1) := by decide +kernel
theorem dL_isEntry_366 : decode cL_isEntry 366 = .ok (.invokevirtual 20, 3) := by decide +kernel
theorem dL_isEntry_369 : decode cL_isEntry 369 = .ok (.iconst 2, 1) := by decide +kernel
theorem dL_isEntry_370 : decode cL_isEntry 370 = .ok (.iadd, 1) := by decide +kernel
theorem dL_isEntry_371 : decode cL_isEntry 371 = .ok (.if_icmp .gt 42, 3) := by decide +kernel
theorem dL_isEntry_374 : decode cL_isEntry 374 = .ok (.iload 11, 2) := by decide +kernel
theorem dL_isEntry_376 : decode cL_isEntry 376 = .ok (.ifCond .ne 33, 3) := by decide +kernel
theorem dL_isEntry_379 : decode cL_isEntry 379 = .ok (.iload 6, 2) := by decide +kernel
theorem dL_isEntry_381 : decode cL_isEntry 381 = .ok (.aload_n 0, 1) := by decide +kernel
theorem dL_isEntry_382 : decode cL_isEntry 382 = .ok (.iconst 0, 1) := by decide +kernel
theorem dL_isEntry_383 : decode cL_isEntry 383 = .ok (.invokevirtual 20, 3) := by decide +kernel
theorem dL_isEntry_386 : decode cL_isEntry 386 = .ok (.iconst 1, 1) := by decide +kernel
theorem dL_isEntry_387 : decode cL_isEntry 387 = .ok (.iadd, 1) := by decide +kernel
theorem dL_isEntry_388 : decode cL_isEntry 388 = .ok (.aload_n 0, 1) := by decide +kernel
theorem dL_isEntry_389 : decode cL_isEntry 389 = .ok (.iload_n 1, 1) := by decide +kernel
theorem dL_isEntry_390 : decode cL_isEntry 390 = .ok (.iload_n 2, 1) := by decide +kernel
theorem dL_isEntry_391 : decode cL_isEntry 391 = .ok (.iconst 4, 1) := by decide +kernel
theorem dL_isEntry_392 : decode cL_isEntry 392 = .ok (.invokevirtual 10, 3) := by decide +kernel
theorem dL_isEntry_395 : decode cL_isEntry 395 = .ok (.iadd, 1) := by decide +kernel
theorem dL_isEntry_396 : decode cL_isEntry 396 = .ok (.if_icmp .ne 17, 3) := by decide +kernel
theorem dL_isEntry_399 : decode cL_isEntry 399 = .ok (.goto 10, 3) := by decide +kernel
theorem dL_isEntry_402 : decode cL_isEntry 402 = .ok (.iload 6, 2) := by decide +kernel
theorem dL_isEntry_404 : decode cL_isEntry 404 = .ok (.bipush (-5), 2) := by decide +kernel
theorem dL_isEntry_406 : decode cL_isEntry 406 = .ok (.if_icmp .ne 7, 3) := by decide +kernel
theorem dL_isEntry_409 : decode cL_isEntry 409 = .ok (.iconst 1, 1) := by decide +kernel
theorem dL_isEntry_410 : decode cL_isEntry 410 = .ok (.goto 4, 3) := by decide +kernel
theorem dL_isEntry_413 : decode cL_isEntry 413 = .ok (.iconst 0, 1) := by decide +kernel
theorem dL_isEntry_414 : decode cL_isEntry 414 = .ok (.ireturn, 1) := by decide +kernel
theorem dL_areRaces_0 : decode cL_areRaces 0 = .ok (.aload_n 0, 1) := by decide +kernel
theorem dL_areRaces_1 : decode cL_areRaces 1 = .ok (.iconst 1, 1) := by decide +kernel
theorem dL_areRaces_2 : decode cL_areRaces 2 = .ok (.invokevirtual 20, 3) := by decide +kernel
theorem dL_areRaces_5 : decode cL_areRaces 5 = .ok (.istore_n 1, 1) := by decide +kernel
theorem dL_areRaces_6 : decode cL_areRaces 6 = .ok (.iconst 0, 1) := by decide +kernel
theorem dL_areRaces_7 : decode cL_areRaces 7 = .ok (.istore_n 2, 1) := by decide +kernel
theorem dL_areRaces_8 : decode cL_areRaces 8 = .ok (.iconst 0, 1) := by decide +kernel
theorem dL_areRaces_9 : decode cL_areRaces 9 = .ok (.istore_n 3, 1) := by decide +kernel
theorem dL_areRaces_10 : decode cL_areRaces 10 = .ok (.iload_n 3, 1) := by decide +kernel
theorem dL_areRaces_11 : decode cL_areRaces 11 = .ok (.iload_n 1, 1) := by decide +kernel
theorem dL_areRaces_12 : decode cL_areRaces 12 = .ok (.if_icmp .ge 201, 3) := by decide +kernel
theorem dL_areRaces_15 : decode cL_areRaces 15 = .ok (.iconst 0, 1) := by decide +kernel
theorem dL_areRaces_16 : decode cL_areRaces 16 = .ok (.istore 4, 2) := by decide +kernel
theorem dL_areRaces_18 : decode cL_areRaces 18 = .ok (.iconst 0, 1) := by decide +kernel
theorem dL_areRaces_19 : decode cL_areRaces 19 = .ok (.istore 5, 2) := by decide +kernel
theorem dL_areRaces_21 : decode cL_areRaces 21 = .ok (.iload_n 2, 1) := by decide +kernel
theorem dL_areRaces_22 : decode cL_areRaces 22 = .ok (.aload_n 0, 1) := by decide +kernel
theorem dL_areRaces_23 : decode cL_areRaces 23 = .ok (.iload_n 3, 1) := by decide +kernel
theorem dL_areRaces_24 : decode cL_areRaces 24 = .ok (.iconst 3, 1) := by decide +kernel
theorem dL_areRaces_25 : decode cL_areRaces 25 = .ok (.invokevirtual 16, 3) := by decide +kernel
theorem dL_areRaces_28 : decode cL_areRaces 28 = .ok (.iconst 2, 1) := by decide +kernel
theorem dL_areRaces_29 : decode cL_areRaces 29 = .ok (.if_icmp .ne 7, 3) := by decide +kernel
theorem dL_areRaces_32 : decode cL_areRaces 32 = .ok (.iconst 1, 1) := by decide +kernel
theorem dL_areRaces_33 : decode cL_areRaces 33 = .ok (.goto 4, 3) := by decide +kernel
theorem dL_areRaces_36 : decode cL_areRaces 36 = .ok (.iconst 0, 1) := by decide +kernel
theorem dL_areRaces_37 : decode cL_areRaces 37 = .ok (.iadd, 1) := by decide +kernel
theorem dL_areRaces_38 : decode cL_areRaces 38 = .ok (.istore_n 2, 1) := by decide +kernel
theorem dL_areRaces_39 : decode cL_areRaces 39 = .ok (.iconst 0, 1) := by decide +kernel
theorem dL_areRaces_40 : decode cL_areRaces 40 = .ok (.istore 6, 2) := by decide +kernel
theorem dL_areRaces_42 : decode cL_areRaces 42 = .ok (.iload 6, 2) := by decide +kernel
theorem dL_areRaces_44 : decode cL_areRaces 44 = .ok (.aload_n 0, 1) := by decide +kernel
theorem dL_areRaces_45 : decode cL_areRaces 45 = .ok (.iconst 0, 1) := by decide +kernel
theorem dL_areRaces_46 : decode cL_areRaces 46 = .ok (.invokevirtual 20, 3) := by decide +kernel
theorem dL_areRaces_49 : decode cL_areRaces 49 = .ok (.if_icmp .ge 56, 3) := by decide +kernel
theorem dL_areRaces_52 : decode cL_areRaces 52 = .ok (.iload 4, 2) := by decide +kernel
theorem dL_areRaces_54 : decode cL_areRaces 54 = .ok (.aload_n 0, 1) := by decide +kernel
theorem dL_areRaces_55 : decode cL_areRaces 55 = .ok (.iload_n 3, 1) := by decide +kernel
theorem dL_areRaces_56 : decode cL_areRaces 56 = .ok (.iload 6, 2) := by decide +kernel
theorem dL_areRaces_58 : decode cL_areRaces 58 = .ok (.iconst 0, 1) := by decide +kernel
theorem dL_areRaces_59 : decode cL_areRaces 59 = .ok (.invokevirtual 10, 3) := by decide +kernel
theorem dL_areRaces_62 : decode cL_areRaces 62 = .ok (.iconst 3, 1) := by decide +kernel
theorem dL_areRaces_63 : decode cL_areRaces 63 = .ok (.if_icmp .ne 7, 3) := by decide +kernel
theorem dL_areRaces_66 : decode cL_areRaces 66 = .ok (.iconst 1, 1) := by decide +kernel
theorem dL_areRaces_67 : decode cL_areRaces 67 = .ok (.goto 4, 3) := by decide +kernel
theorem dL_areRaces_70 : decode cL_areRaces 70 = .ok (.iconst 0, 1) := by decide +kernel
theorem dL_areRaces_71 : decode cL_areRaces 71 = .ok (.iadd, 1) := by decide +kernel
theorem dL_areRaces_72 : decode cL_areRaces 72 = .ok (.istore 4, 2) := by decide +kernel
theorem dL_areRaces_74 : decode cL_areRaces 74 = .ok (.iload 5, 2) := by decide +kernel
theorem dL_areRaces_76 : decode cL_areRaces 76 = .ok (.aload_n 0, 1) := by decide +kernel
theorem dL_areRaces_77 : decode cL_areRaces 77 = .ok (.iload_n 3, 1) := by decide +kernel
theorem dL_areRaces_78 : decode cL_areRaces 78 = .ok (.iload 6, 2) := by decide +kernel
theorem dL_areRaces_80 : decode cL_areRaces 80 = .ok (.iconst 4, 1) := by decide +kernel
theorem dL_areRaces_81 : decode cL_areRaces 81 = .ok (.invokevirtual 10, 3) := by decide +kernel
theorem dL_areRaces_84 : decode cL_areRaces 84 = .ok (.iadd, 1) := by decide +kernel
theorem dL_areRaces_85 : decode cL_areRaces 85 = .ok (.istore 5, 2) := by decide +kernel
theorem dL_areRaces_87 : decode cL_areRaces 87 = .ok (.aload_n 0, 1) := by decide +kernel
theorem dL_areRaces_88 : decode cL_areRaces 88 = .ok (.iload_n 3, 1) := by decide +kernel
theorem dL_areRaces_89 : decode cL_areRaces 89 = .ok (.iload 6, 2) := by decide +kernel
theorem dL_areRaces_91 : decode cL_areRaces 91 = .ok (.invokestatic 27, 3) := by decide +kernel
theorem dL_areRaces_94 : decode cL_areRaces 94 = .ok (.ifCond .ne 5, 3) := by decide +kernel
theorem dL_areRaces_97 : decode cL_areRaces 97 = .ok (.iconst 0, 1) := by decide +kernel
theorem dL_areRaces_98 : decode cL_areRaces 98 = .ok (.ireturn, 1) := by decide +kernel
theorem dL_areRaces_99 : decode cL_areRaces 99 = .ok (.iinc 6 1, 3) := by decide +kernel
theorem dL_areRaces_102 : decode cL_areRaces 102 = .ok (.goto (-60), 3) := by decide +kernel
theorem dL_areRaces_105 : decode cL_areRaces 105 = .ok (.aload_n 0, 1) := by decide +kernel
theorem dL_areRaces_106 : decode cL_areRaces 106 = .ok (.iload_n 3, 1) := by decide +kernel
theorem dL_areRaces_107 : decode cL_areRaces 107 = .ok (.bipush 6, 2) := by decide +kernel
theorem dL_areRaces_109 : decode cL_areRaces 109 = .ok (.invokevirtual 16, 3) := by decide +kernel
theorem dL_areRaces_112 : decode cL_areRaces 112 = .ok (.istore 6, 2) := by decide +kernel
theorem dL_areRaces_114 : decode cL_areRaces 114 = .ok (.aload_n 0, 1) := by decide +kernel
theorem dL_areRaces_115 : decode cL_areRaces 115 = .ok (.iload_n 3, 1) := by decide +kernel
theorem dL_areRaces_116 : decode cL_areRaces 116 = .ok (.iconst 4, 1) := by decide +kernel
theorem dL_areRaces_117 : decode cL_areRaces 117 = .ok (.invokevirtual 16, 3) := by decide +kernel
theorem dL_areRaces_120 : decode cL_areRaces 120 = .ok (.iload 4, 2) := by decide +kernel
theorem dL_areRaces_122 : decode cL_areRaces 122 = .ok (.if_icmp .ne 83, 3) := by decide +kernel
theorem dL_areRaces_125 : decode cL_areRaces 125 = .ok (.aload_n 0, 1) := by decide +kernel
theorem dL_areRaces_126 : decode cL_areRaces 126 = .ok (.iload_n 3, 1) := by decide +kernel
theorem dL_areRaces_127 : decode cL_areRaces 127 = .ok (.iconst 5, 1) := by decide +kernel
theorem dL_areRaces_128 : decode cL_areRaces 128 = .ok (.invokevirtual 16, 3) := by decide +kernel
theorem dL_areRaces_131 : decode cL_areRaces 131 = .ok (.iload 5, 2) := by decide +kernel
theorem dL_areRaces_133 : decode cL_areRaces 133 = .ok (.if_icmp .ne 72, 3) := by decide +kernel
theorem dL_areRaces_136 : decode cL_areRaces 136 = .ok (.iload_n 3, 1) := by decide +kernel
theorem dL_areRaces_137 : decode cL_areRaces 137 = .ok (.iload_n 1, 1) := by decide +kernel
theorem dL_areRaces_138 : decode cL_areRaces 138 = .ok (.iconst 1, 1) := by decide +kernel
theorem dL_areRaces_139 : decode cL_areRaces 139 = .ok (.isub, 1) := by decide +kernel
theorem dL_areRaces_140 : decode cL_areRaces 140 = .ok (.if_icmp .ge 13, 3) := by decide +kernel
theorem dL_areRaces_143 : decode cL_areRaces 143 = .ok (.aload_n 0, 1) := by decide +kernel
theorem dL_areRaces_144 : decode cL_areRaces 144 = .ok (.iload_n 3, 1) := by decide +kernel
theorem dL_areRaces_145 : decode cL_areRaces 145 = .ok (.iconst 3, 1) := by decide +kernel
theorem dL_areRaces_146 : decode cL_areRaces 146 = .ok (.invokevirtual 16, 3) := by decide +kernel
theorem dL_areRaces_149 : decode cL_areRaces 149 = .ok (.iconst 2, 1) := by decide +kernel
theorem dL_areRaces_150 : decode cL_areRaces 150 = .ok (.if_icmp .ne 55, 3) := by decide +kernel
theorem dL_areRaces_153 : decode cL_areRaces 153 = .ok (.iload 6, 2) := by decide +kernel
theorem dL_areRaces_155 : decode cL_areRaces 155 = .ok (.ifCond .lt 52, 3) := by decide +kernel
theorem dL_areRaces_158 : decode cL_areRaces 158 = .ok (.aload_n 0, 1) := by decide +kernel
theorem dL_areRaces_159 : decode cL_areRaces 159 = .ok (.iload_n 3, 1) := by decide +kernel
theorem dL_areRaces_160 : decode cL_areRaces 160 = .ok (.iload 6, 2) := by decide +kernel
theorem dL_areRaces_162 : decode cL_areRaces 162 = .ok (.iconst 0, 1) := by decide +kernel
theorem dL_areRaces_163 : decode cL_areRaces 163 = .ok (.invokevirtual 10, 3) := by decide +kernel
theorem dL_areRaces_166 : decode cL_areRaces 166 = .ok (.iconst 3, 1) := by decide +kernel
theorem dL_areRaces_167 : decode cL_areRaces 167 = .ok (.if_icmp .ne 38, 3) := by decide +kernel
theorem dL_areRaces_170 : decode cL_areRaces 170 = .ok (.aload_n 0, 1) := by decide +kernel
theorem dL_areRaces_171 : decode cL_areRaces 171 = .ok (.iload_n 3, 1) := by decide +kernel
theorem dL_areRaces_172 : decode cL_areRaces 172 = .ok (.iload 6, 2) := by decide +kernel
theorem dL_areRaces_174 : decode cL_areRaces 174 = .ok (.iconst 4, 1) := by decide +kernel
theorem dL_areRaces_175 : decode cL_areRaces 175 = .ok (.invokevirtual 10, 3) := by decide +kernel
theorem dL_areRaces_178 : decode cL_areRaces 178 = .ok (.iconst 1, 1) := by decide +kernel
theorem dL_areRaces_179 : decode cL_areRaces 179 = .ok (.if_icmp .eq 26, 3) := by decide +kernel
theorem dL_areRaces_182 : decode cL_areRaces 182 = .ok (.aload_n 0, 1) := by decide +kernel
theorem dL_areRaces_183 : decode cL_areRaces 183 = .ok (.iload_n 3, 1) := by decide +kernel
theorem dL_areRaces_184 : decode cL_areRaces 184 = .ok (.iconst 3, 1) := by decide +kernel
theorem dL_areRaces_185 : decode cL_areRaces 185 = .ok (.invokevirtual 16, 3) := by decide +kernel
theorem dL_areRaces_188 : decode cL_areRaces 188 = .ok (.iconst 2, 1) := by decide +kernel
theorem dL_areRaces_189 : decode cL_areRaces 189 = .ok (.if_icmp .ne 18, 3) := by decide +kernel
theorem dL_areRaces_192 : decode cL_areRaces 192 = .ok (.aload_n 0, 1) := by decide +kernel
theorem dL_areRaces_193 : decode cL_areRaces 193 = .ok (.iload_n 3, 1) := by decide +kernel
theorem dL_areRaces_194 : decode cL_areRaces 194 = .ok (.iload 6, 2) := by decide +kernel
theorem dL_areRaces_196 : decode cL_areRaces 196 = .ok (.bipush 7, 2) := by decide +kernel
theorem dL_areRaces_198 : decode cL_areRaces 198 = .ok (.invokevirtual 10, 3) := by decide +kernel
theorem dL_areRaces_201 : decode cL_areRaces 201 = .ok (.iconst 1, 1) := by decide +kernel
theorem dL_areRaces_202 : decode cL_areRaces 202 = .ok (.if_icmp .eq 5, 3) := by decide +kernel
theorem dL_areRaces_205 : decode cL_areRaces 205 = .ok (.iconst 0, 1) := by decide +kernel
theorem dL_areRaces_206 : decode cL_areRaces 206 = .ok (.ireturn, 1) := by decide +kernel
theorem dL_areRaces_207 : decode cL_areRaces 207 = .ok (.iinc 3 1, 3) := by decide +kernel
theorem dL_areRaces_210 : decode cL_areRaces 210 = .ok (.goto (-200), 3) := by decide +kernel
theorem dL_areRaces_213 : decode cL_areRaces 213 = .ok (.aload_n 0, 1) := by decide +kernel
theorem dL_areRaces_214 : decode cL_areRaces 214 = .ok (.iconst 2, 1) := by decide +kernel
theorem dL_areRaces_215 : decode cL_areRaces 215 = .ok (.invokevirtual 20, 3) := by decide +kernel
theorem dL_areRaces_218 : decode cL_areRaces 218 = .ok (.iload_n 2, 1) := by decide +kernel
theorem dL_areRaces_219 : decode cL_areRaces 219 = .ok (.if_icmp .ne 52, 3) := by decide +kernel
theorem dL_areRaces_222 : decode cL_areRaces 222 = .ok (.iload_n 2, 1) := by decide +kernel
theorem dL_areRaces_223 : decode cL_areRaces 223 = .ok (.iload_n 1, 1) := by decide +kernel
theorem dL_areRaces_224 : decode cL_areRaces 224 = .ok (.aload_n 0, 1) := by decide +kernel
theorem dL_areRaces_225 : decode cL_areRaces 225 = .ok (.iconst 4, 1) := by decide +kernel
theorem dL_areRaces_226 : decode cL_areRaces 226 = .ok (.invokevirtual 20, 3) := by decide +kernel
theorem dL_areRaces_229 : decode cL_areRaces 229 = .ok (.iconst 1, 1) := by decide +kernel
theorem dL_areRaces_230 : decode cL_areRaces 230 = .ok (.if_icmp .ne 7, 3) := by decide +kernel
theorem dL_areRaces_233 : decode cL_areRaces 233 = .ok (.iconst 1, 1) := by decide +kernel
theorem dL_areRaces_234 : decode cL_areRaces 234 = .ok (.goto 4, 3) := by decide +kernel
theorem dL_areRaces_237 : decode cL_areRaces 237 = .ok (.iconst 0, 1) := by decide +kernel
theorem dL_areRaces_238 : decode cL_areRaces 238 = .ok (.isub, 1) := by decide +kernel
theorem dL_areRaces_239 : decode cL_areRaces 239 = .ok (.if_icmp .ne 32, 3) := by decide +kernel
theorem dL_areRaces_242 : decode cL_areRaces 242 = .ok (.aload_n 0, 1) := by decide +kernel
theorem dL_areRaces_243 : decode cL_areRaces 243 = .ok (.iconst 4, 1) := by decide +kernel
theorem dL_areRaces_244 : decode cL_areRaces 244 = .ok (.invokevirtual 20, 3) := by decide +kernel
theorem dL_areRaces_247 : decode cL_areRaces 247 = .ok (.ifCond .ne 7, 3) := by decide +kernel
theorem dL_areRaces_250 : decode cL_areRaces 250 = .ok (.iconst 1, 1) := by decide +kernel
theorem dL_areRaces_251 : decode cL_areRaces 251 = .ok (.goto 4, 3) := by decide +kernel
theorem dL_areRaces_254 : decode cL_areRaces 254 = .ok (.iconst 0, 1) := by decide +kernel
theorem dL_areRaces_255 : decode cL_areRaces 255 = .ok (.iload_n 1, 1) := by decide +kernel
theorem dL_areRaces_256 : decode cL_areRaces 256 = .ok (.ifCond .ne 7, 3) := by decide +kernel
theorem dL_areRaces_259 : decode cL_areRaces 259 = .ok (.iconst 1, 1) := by decide +kernel
theorem dL_areRaces_260 : decode cL_areRaces 260 = .ok (.goto 4, 3) := by decide +kernel
theorem dL_areRaces_263 : decode cL_areRaces 263 = .ok (.iconst 0, 1) := by decide +kernel
theorem dL_areRaces_264 : decode cL_areRaces 264 = .ok (.if_icmp .ne 7, 3) := by decide +kernel
theorem dL_areRaces_267 : decode cL_areRaces 267 = .ok (.iconst 1, 1) := by decide +kernel
theorem dL_areRaces_268 : decode cL_areRaces 268 = .ok (.goto 4, 3) := by decide +kernel
theorem dL_areRaces_271 : decode cL_areRaces 271 = .ok (.iconst 0, 1) := by decide +kernel
theorem dL_areRaces_272 : decode cL_areRaces 272 = .ok (.ireturn, 1) := by decide +kernel
theorem dL_areBoats_0 : decode cL_areBoats 0 = .ok (.iconst 0, 1) := by decide +kernel
theorem dL_areBoats_1 : decode cL_areBoats 1 = .ok (.istore_n 1, 1) := by decide +kernel
theorem dL_areBoats_2 : decode cL_areBoats 2 = .ok (.aload_n 0, 1) := by decide +kernel
theorem dL_areBoats_3 : decode cL_areBoats 3 = .ok (.iconst 0, 1) := by decide +kernel
theorem dL_areBoats_4 : decode cL_areBoats 4 = .ok (.invokevirtual 20, 3) := by decide +kernel
theorem dL_areBoats_7 : decode cL_areBoats 7 = .ok (.istore_n 2, 1) := by decide +kernel
theorem dL_areBoats_8 : decode cL_areBoats 8 = .ok (.aload_n 0, 1) := by decide +kernel
theorem dL_areBoats_9 : decode cL_areBoats 9 = .ok (.iconst 2, 1) := by decide +kernel
theorem dL_areBoats_10 : decode cL_areBoats 10 = .ok (.invokevirtual 20, 3) := by decide +kernel
theorem dL_areBoats_13 : decode cL_areBoats 13 = .ok (.istore_n 3, 1) := by decide +kernel
theorem dL_areBoats_14 : decode cL_areBoats 14 = .ok (.iconst 0, 1) := by decide +kernel
theorem dL_areBoats_15 : decode cL_areBoats 15 = .ok (.istore 4, 2) := by decide +kernel
theorem dL_areBoats_17 : decode cL_areBoats 17 = .ok (.iload 4, 2) := by decide +kernel
theorem dL_areBoats_19 : decode cL_areBoats 19 = .ok (.iload_n 2, 1) := by decide +kernel
theorem dL_areBoats_20 : decode cL_areBoats 20 = .ok (.if_icmp .ge 369, 3) := by decide +kernel
theorem dL_areBoats_23 : decode cL_areBoats 23 = .ok (.iconst 0, 1) := by decide +kernel
theorem dL_areBoats_24 : decode cL_areBoats 24 = .ok (.istore 5, 2) := by decide +kernel
theorem dL_areBoats_26 : decode cL_areBoats 26 = .ok (.iconst 0, 1) := by decide +kernel
theorem dL_areBoats_27 : decode cL_areBoats 27 = .ok (.istore 6, 2) := by decide +kernel
theorem dL_areBoats_29 : decode cL_areBoats 29 = .ok (.iconst 0, 1) := by decide +kernel
theorem dL_areBoats_30 : decode cL_areBoats 30 = .ok (.istore 7, 2) := by decide +kernel
theorem dL_areBoats_32 : decode cL_areBoats 32 = .ok (.aload_n 0, 1) := by decide +kernel
theorem dL_areBoats_33 : decode cL_areBoats 33 = .ok (.iload 4, 2) := by decide +kernel
theorem dL_areBoats_35 : decode cL_areBoats 35 = .ok (.iconst 3, 1) := by decide +kernel
theorem dL_areBoats_36 : decode cL_areBoats 36 = .ok (.invokevirtual 24, 3) := by decide +kernel
theorem dL_areBoats_39 : decode cL_areBoats 39 = .ok (.istore 8, 2) := by decide +kernel
theorem dL_areBoats_41 : decode cL_areBoats 41 = .ok (.iconst 0, 1) := by decide +kernel
theorem dL_areBoats_42 : decode cL_areBoats 42 = .ok (.istore 9, 2) := by decide +kernel
theorem dL_areBoats_44 : decode cL_areBoats 44 = .ok (.iload 9, 2) := by decide +kernel
theorem dL_areBoats_46 : decode cL_areBoats 46 = .ok (.iload_n 3, 1) := by decide +kernel
theorem dL_areBoats_47 : decode cL_areBoats 47 = .ok (.if_icmp .ge 68, 3) := by decide +kernel
theorem dL_areBoats_50 : decode cL_areBoats 50 = .ok (.aload_n 0, 1) := by decide +kernel
theorem dL_areBoats_51 : decode cL_areBoats 51 = .ok (.iload 9, 2) := by decide +kernel
theorem dL_areBoats_53 : decode cL_areBoats 53 = .ok (.iload 4, 2) := by decide +kernel
theorem dL_areBoats_55 : decode cL_areBoats 55 = .ok (.bipush 8, 2) := by decide +kernel
theorem dL_areBoats_57 : decode cL_areBoats 57 = .ok (.invokevirtual 10, 3) := by decide +kernel
theorem dL_areBoats_60 : decode cL_areBoats 60 = .ok (.istore 10, 2) := by decide +kernel
theorem dL_areBoats_62 : decode cL_areBoats 62 = .ok (.iload 5, 2) := by decide +kernel
theorem dL_areBoats_64 : decode cL_areBoats 64 = .ok (.iload 10, 2) := by decide +kernel
theorem dL_areBoats_66 : decode cL_areBoats 66 = .ok (.iadd, 1) := by decide +kernel
theorem dL_areBoats_67 : decode cL_areBoats 67 = .ok (.istore 5, 2) := by decide +kernel
theorem dL_areBoats_69 : decode cL_areBoats 69 = .ok (.iload 10, 2) := by decide +kernel
theorem dL_areBoats_71 : decode cL_areBoats 71 = .ok (.iload 7, 2) := by decide +kernel
theorem dL_areBoats_73 : decode cL_areBoats 73 = .ok (.if_icmp .le 8, 3) := by decide +kernel
theorem dL_areBoats_76 : decode cL_areBoats 76 = .ok (.iload 10, 2) := by decide +kernel
theorem dL_areBoats_78 : decode cL_areBoats 78 = .ok (.goto 5, 3) := by decide +kernel
theorem dL_areBoats_81 : decode cL_areBoats 81 = .ok (.iload 7, 2) := by decide +kernel
theorem dL_areBoats_83 : decode cL_areBoats 83 = .ok (.istore 7, 2) := by decide +kernel
theorem dL_areBoats_85 : decode cL_areBoats 85 = .ok (.iload 6, 2) := by decide +kernel
theorem dL_areBoats_87 : decode cL_areBoats 87 = .ok (.aload_n 0, 1) := by decide +kernel
theorem dL_areBoats_88 : decode cL_areBoats 88 = .ok (.iload 9, 2) := by decide +kernel
theorem dL_areBoats_90 : decode cL_areBoats 90 = .ok (.iload 4, 2) := by decide +kernel
theorem dL_areBoats_92 : decode cL_areBoats 92 = .ok (.bipush 7, 2) := by decide +kernel
theorem dL_areBoats_94 : decode cL_areBoats 94 = .ok (.invokevirtual 10, 3) := by decide +kernel
theorem dL_areBoats_97 : decode cL_areBoats 97 = .ok (.iconst 1, 1) := by decide +kernel
theorem dL_areBoats_98 : decode cL_areBoats 98 = .ok (.if_icmp .ne 7, 3) := by decide +kernel
theorem dL_areBoats_101 : decode cL_areBoats 101 = .ok (.iconst 1, 1) := by decide +kernel
theorem dL_areBoats_102 : decode cL_areBoats 102 = .ok (.goto 4, 3) := by decide +kernel
theorem dL_areBoats_105 : decode cL_areBoats 105 = .ok (.iconst 0, 1) := by decide +kernel
theorem dL_areBoats_106 : decode cL_areBoats 106 = .ok (.iadd, 1) := by decide +kernel
theorem dL_areBoats_107 : decode cL_areBoats 107 = .ok (.istore 6, 2) := by decide +kernel
theorem dL_areBoats_109 : decode cL_areBoats 109 = .ok (.iinc 9 1, 3) := by decide +kernel
theorem dL_areBoats_112 : decode cL_areBoats 112 = .ok (.goto (-68), 3) := by decide +kernel
theorem dL_areBoats_115 : decode cL_areBoats 115 = .ok (.aload_n 0, 1) := by decide +kernel
theorem dL_areBoats_116 : decode cL_areBoats 116 = .ok (.bipush 8, 2) := by decide +kernel
theorem dL_areBoats_118 : decode cL_areBoats 118 = .ok (.invokevirtual 20, 3) := by decide +kernel
theorem dL_areBoats_121 : decode cL_areBoats 121 = .ok (.ifCond .le 17, 3) := by decide +kernel
theorem dL_areBoats_124 : decode cL_areBoats 124 = .ok (.iload_n 3, 1) := by decide +kernel
theorem dL_areBoats_125 : decode cL_areBoats 125 = .ok (.aload_n 0, 1) := by decide +kernel
theorem dL_areBoats_126 : decode cL_areBoats 126 = .ok (.bipush 8, 2) := by decide +kernel
theorem dL_areBoats_128 : decode cL_areBoats 128 = .ok (.invokevirtual 20, 3) := by decide +kernel
theorem dL_areBoats_131 : decode cL_areBoats 131 = .ok (.if_icmp .lt 7, 3) := by decide +kernel
theorem dL_areBoats_134 : decode cL_areBoats 134 = .ok (.iconst 1, 1) := by decide +kernel
theorem dL_areBoats_135 : decode cL_areBoats 135 = .ok (.goto 4, 3) := by decide +kernel
theorem dL_areBoats_138 : decode cL_areBoats 138 = .ok (.iconst 0, 1) := by decide +kernel
theorem dL_areBoats_139 : decode cL_areBoats 139 = .ok (.istore 9, 2) := by decide +kernel
theorem dL_areBoats_141 : decode cL_areBoats 141 = .ok (.aload_n 0, 1) := by decide +kernel
theorem dL_areBoats_142 : decode cL_areBoats 142 = .ok (.iload 4, 2) := by decide +kernel
theorem dL_areBoats_144 : decode cL_areBoats 144 = .ok (.iconst 2, 1) := by decide +kernel
theorem dL_areBoats_145 : decode cL_areBoats 145 = .ok (.invokevirtual 24, 3) := by decide +kernel
theorem dL_areBoats_148 : decode cL_areBoats 148 = .ok (.istore 10, 2) := by decide +kernel
theorem dL_areBoats_150 : decode cL_areBoats 150 = .ok (.iload_n 1, 1) := by decide +kernel
theorem dL_areBoats_151 : decode cL_areBoats 151 = .ok (.iconst 1, 1) := by decide +kernel
theorem dL_areBoats_152 : decode cL_areBoats 152 = .ok (.iload 10, 2) := by decide +kernel
theorem dL_areBoats_154 : decode cL_areBoats 154 = .ok (.ishl, 1) := by decide +kernel
theorem dL_areBoats_155 : decode cL_areBoats 155 = .ok (.ior, 1) := by decide +kernel
theorem dL_areBoats_156 : decode cL_areBoats 156 = .ok (.istore_n 1, 1) := by decide +kernel
theorem dL_areBoats_157 : decode cL_areBoats 157 = .ok (.iload 8, 2) := by decide +kernel
theorem dL_areBoats_159 : decode cL_areBoats 159 = .ok (.ifCond .lt 7, 3) := by decide +kernel
theorem dL_areBoats_162 : decode cL_areBoats 162 = .ok (.iconst 1, 1) := by decide +kernel
theorem dL_areBoats_163 : decode cL_areBoats 163 = .ok (.goto 4, 3) := by decide +kernel
theorem dL_areBoats_166 : decode cL_areBoats 166 = .ok (.iconst 0, 1) := by decide +kernel
theorem dL_areBoats_167 : decode cL_areBoats 167 = .ok (.iload 9, 2) := by decide +kernel
theorem dL_areBoats_169 : decode cL_areBoats 169 = .ok (.if_icmp .ne 98, 3) := by decide +kernel
theorem dL_areBoats_172 : decode cL_areBoats 172 = .ok (.aload_n 0, 1) := by decide +kernel
theorem dL_areBoats_173 : decode cL_areBoats 173 = .ok (.iload 4, 2) := by decide +kernel
theorem dL_areBoats_175 : decode cL_areBoats 175 = .ok (.iconst 1, 1) := by decide +kernel
theorem dL_areBoats_176 : decode cL_areBoats 176 = .ok (.invokevirtual 24, 3) := by decide +kernel
theorem dL_areBoats_179 : decode cL_areBoats 179 = .ok (.iload 5, 2) := by decide +kernel
theorem dL_areBoats_181 : decode cL_areBoats 181 = .ok (.iload 9, 2) := by decide +kernel
theorem dL_areBoats_183 : decode cL_areBoats 183 = .ok (.ifCond .eq 8, 3) := by decide +kernel
theorem dL_areBoats_186 : decode cL_areBoats 186 = .ok (.iload 7, 2) := by decide +kernel
theorem dL_areBoats_188 : decode cL_areBoats 188 = .ok (.goto 4, 3) := by decide +kernel
theorem dL_areBoats_191 : decode cL_areBoats 191 = .ok (.iconst 0, 1) := by decide +kernel
theorem dL_areBoats_192 : decode cL_areBoats 192 = .ok (.isub, 1) := by decide +kernel
theorem dL_areBoats_193 : decode cL_areBoats 193 = .ok (.if_icmp .ne 74, 3) := by decide +kernel
theorem dL_areBoats_196 : decode cL_areBoats 196 = .ok (.iload 9, 2) := by decide +kernel
theorem dL_areBoats_198 : decode cL_areBoats 198 = .ok (.ifCond .eq 18, 3) := by decide +kernel
theorem dL_areBoats_201 : decode cL_areBoats 201 = .ok (.aload_n 0, 1) := by decide +kernel
theorem dL_areBoats_202 : decode cL_areBoats 202 = .ok (.iload 8, 2) := by decide +kernel
theorem dL_areBoats_204 : decode cL_areBoats 204 = .ok (.iload 4, 2) := by decide +kernel
theorem dL_areBoats_206 : decode cL_areBoats 206 = .ok (.bipush 8, 2) := by decide +kernel
theorem dL_areBoats_208 : decode cL_areBoats 208 = .ok (.invokevirtual 10, 3) := by decide +kernel
theorem dL_areBoats_211 : decode cL_areBoats 211 = .ok (.iload 7, 2) := by decide +kernel
theorem dL_areBoats_213 : decode cL_areBoats 213 = .ok (.if_icmp .ne 54, 3) := by decide +kernel
theorem dL_areBoats_216 : decode cL_areBoats 216 = .ok (.aload_n 0, 1) := by decide +kernel
theorem dL_areBoats_217 : decode cL_areBoats 217 = .ok (.iload 4, 2) := by decide +kernel
theorem dL_areBoats_219 : decode cL_areBoats 219 = .ok (.iconst 4, 1) := by decide +kernel
theorem dL_areBoats_220 : decode cL_areBoats 220 = .ok (.invokevirtual 24, 3) := by decide +kernel
theorem dL_areBoats_223 : decode cL_areBoats 223 = .ok (.iload 6, 2) := by decide +kernel
theorem dL_areBoats_225 : decode cL_areBoats 225 = .ok (.if_icmp .ne 42, 3) := by decide +kernel
theorem dL_areBoats_228 : decode cL_areBoats 228 = .ok (.aload_n 0, 1) := by decide +kernel
theorem dL_areBoats_229 : decode cL_areBoats 229 = .ok (.iload 10, 2) := by decide +kernel
theorem dL_areBoats_231 : decode cL_areBoats 231 = .ok (.invokevirtual 33, 3) := by decide +kernel
theorem dL_areBoats_234 : decode cL_areBoats 234 = .ok (.iload 4, 2) := by decide +kernel
theorem dL_areBoats_236 : decode cL_areBoats 236 = .ok (.if_icmp .ne 31, 3) := by decide +kernel
theorem dL_areBoats_239 : decode cL_areBoats 239 = .ok (.aload_n 0, 1) := by decide +kernel
theorem dL_areBoats_240 : decode cL_areBoats 240 = .ok (.iload 4, 2) := by decide +kernel
theorem dL_areBoats_242 : decode cL_areBoats 242 = .ok (.invokevirtual 36, 3) := by decide +kernel
theorem dL_areBoats_245 : decode cL_areBoats 245 = .ok (.iload_n 3, 1) := by decide +kernel
theorem dL_areBoats_246 : decode cL_areBoats 246 = .ok (.ifCond .ne 7, 3) := by decide +kernel
theorem dL_areBoats_249 : decode cL_areBoats 249 = .ok (.fconst 0, 1) := by decide +kernel
theorem dL_areBoats_250 : decode cL_areBoats 250 = .ok (.goto 9, 3) := by decide +kernel
theorem dL_areBoats_253 : decode cL_areBoats 253 = .ok (.iload 5, 2) := by decide +kernel
theorem dL_areBoats_255 : decode cL_areBoats 255 = .ok (.i2f, 1) := by decide +kernel
theorem dL_areBoats_256 : decode cL_areBoats 256 = .ok (.iload_n 3, 1) := by decide +kernel
theorem dL_areBoats_257 : decode cL_areBoats 257 = .ok (.i2f, 1) := by decide +kernel
theorem dL_areBoats_258 : decode cL_areBoats 258 = .ok (.fdiv, 1) := by decide +kernel
theorem dL_areBoats_259 : decode cL_areBoats 259 = .ok (.fcmp .l, 1) := by decide +kernel
theorem dL_areBoats_260 : decode cL_areBoats 260 = .ok (.ifCond .ne 7, 3) := by decide +kernel
theorem dL_areBoats_263 : decode cL_areBoats 263 = .ok (.iconst 1, 1) := by decide +kernel
theorem dL_areBoats_264 : decode cL_areBoats 264 = .ok (.goto 4, 3) := by decide +kernel
theorem dL_areBoats_267 : decode cL_areBoats 267 = .ok (.iconst 0, 1) := by decide +kernel
theorem dL_areBoats_268 : decode cL_areBoats 268 = .ok (.istore 11, 2) := by decide +kernel
theorem dL_areBoats_270 : decode cL_areBoats 270 = .ok (.iload 8, 2) := by decide +kernel
theorem dL_areBoats_272 : decode cL_areBoats 272 = .ok (.iconst 1, 1) := by decide +kernel
theorem dL_areBoats_273 : decode cL_areBoats 273 = .ok (.iadd, 1) := by decide +kernel
theorem dL_areBoats_274 : decode cL_areBoats 274 = .ok (.istore 12, 2) := by decide +kernel
theorem dL_areBoats_276 : decode cL_areBoats 276 = .ok (.iload 12, 2) := by decide +kernel
theorem dL_areBoats_278 : decode cL_areBoats 278 = .ok (.iload_n 3, 1) := by decide +kernel
theorem dL_areBoats_279 : decode cL_areBoats 279 = .ok (.if_icmp .ge 41, 3) := by decide +kernel
theorem dL_areBoats_282 : decode cL_areBoats 282 = .ok (.iload 9, 2) := by decide +kernel
theorem dL_areBoats_284 : decode cL_areBoats 284 = .ok (.ifCond .eq 36, 3) := by decide +kernel
theorem dL_areBoats_287 : decode cL_areBoats 287 = .ok (.iload 11, 2) := by decide +kernel
theorem dL_areBoats_289 : decode cL_areBoats 289 = .ok (.ifCond .eq 31, 3) := by decide +kernel
theorem dL_areBoats_292 : decode cL_areBoats 292 = .ok (.aload_n 0, 1) := by decide +kernel
theorem dL_areBoats_293 : decode cL_areBoats 293 = .ok (.iload 12, 2) := by decide +kernel
theorem dL_areBoats_295 : decode cL_areBoats 295 = .ok (.iload 4, 2) := by decide +kernel
theorem dL_areBoats_297 : decode cL_areBoats 297 = .ok (.bipush 8, 2) := by decide +kernel
theorem dL_areBoats_299 : decode cL_areBoats 299 = .ok (.invokevirtual 10, 3) := by decide +kernel
theorem dL_areBoats_302 : decode cL_areBoats 302 = .ok (.iload 7, 2) := by decide +kernel
theorem dL_areBoats_304 : decode cL_areBoats 304 = .ok (.if_icmp .ge 7, 3) := by decide +kernel
theorem dL_areBoats_307 : decode cL_areBoats 307 = .ok (.iconst 1, 1) := by decide +kernel
theorem dL_areBoats_308 : decode cL_areBoats 308 = .ok (.goto 4, 3) := by decide +kernel
theorem dL_areBoats_311 : decode cL_areBoats 311 = .ok (.iconst 0, 1) := by decide +kernel
theorem dL_areBoats_312 : decode cL_areBoats 312 = .ok (.istore 11, 2) := by decide +kernel
theorem dL_areBoats_314 : decode cL_areBoats 314 = .ok (.iinc 12 1, 3) := by decide +kernel
theorem dL_areBoats_317 : decode cL_areBoats 317 = .ok (.goto (-41), 3) := by decide +kernel
theorem dL_areBoats_320 : decode cL_areBoats 320 = .ok (.iconst 0, 1) := by decide +kernel
theorem dL_areBoats_321 : decode cL_areBoats 321 = .ok (.istore 12, 2) := by decide +kernel
theorem dL_areBoats_323 : decode cL_areBoats 323 = .ok (.iload 12, 2) := by decide +kernel
theorem dL_areBoats_325 : decode cL_areBoats 325 = .ok (.iload_n 2, 1) := by decide +kernel
theorem dL_areBoats_326 : decode cL_areBoats 326 = .ok (.if_icmp .ge 50, 3) := by decide +kernel
theorem dL_areBoats_329 : decode cL_areBoats 329 = .ok (.iload 11, 2) := by decide +kernel
theorem dL_areBoats_331 : decode cL_areBoats 331 = .ok (.ifCond .eq 45, 3) := by decide +kernel
theorem dL_areBoats_334 : decode cL_areBoats 334 = .ok (.aload_n 0, 1) := by decide +kernel
theorem dL_areBoats_335 : decode cL_areBoats 335 = .ok (.iload 12, 2) := by decide +kernel
theorem dL_areBoats_337 : decode cL_areBoats 337 = .ok (.iconst 1, 1) := by decide +kernel
theorem dL_areBoats_338 : decode cL_areBoats 338 = .ok (.invokevirtual 24, 3) := by decide +kernel
theorem dL_areBoats_341 : decode cL_areBoats 341 = .ok (.aload_n 0, 1) := by decide +kernel
theorem dL_areBoats_342 : decode cL_areBoats 342 = .ok (.iload 4, 2) := by decide +kernel
theorem dL_areBoats_344 : decode cL_areBoats 344 = .ok (.iconst 1, 1) := by decide +kernel
theorem dL_areBoats_345 : decode cL_areBoats 345 = .ok (.invokevirtual 24, 3) := by decide +kernel
theorem dL_areBoats_348 : decode cL_areBoats 348 = .ok (.if_icmp .ge 15, 3) := by decide +kernel
theorem dL_areBoats_351 : decode cL_areBoats 351 = .ok (.aload_n 0, 1) := by decide +kernel
theorem dL_areBoats_352 : decode cL_areBoats 352 = .ok (.iload 12, 2) := by decide +kernel
theorem dL_areBoats_354 : decode cL_areBoats 354 = .ok (.iconst 2, 1) := by decide +kernel
theorem dL_areBoats_355 : decode cL_areBoats 355 = .ok (.invokevirtual 24, 3) := by decide +kernel
theorem dL_areBoats_358 : decode cL_areBoats 358 = .ok (.iload 10, 2) := by decide +kernel
theorem dL_areBoats_360 : decode cL_areBoats 360 = .ok (.if_icmp .ge 7, 3) := by decide +kernel
theorem dL_areBoats_363 : decode cL_areBoats 363 = .ok (.iconst 1, 1) := by decide +kernel
theorem dL_areBoats_364 : decode cL_areBoats 364 = .ok (.goto 4, 3) := by decide +kernel
theorem dL_areBoats_367 : decode cL_areBoats 367 = .ok (.iconst 0, 1) := by decide +kernel
theorem dL_areBoats_368 : decode cL_areBoats 368 = .ok (.istore 11, 2) := by decide +kernel
theorem dL_areBoats_370 : decode cL_areBoats 370 = .ok (.iinc 12 1, 3) := by decide +kernel
theorem dL_areBoats_373 : decode cL_areBoats 373 = .ok (.goto (-50), 3) := by decide +kernel
theorem dL_areBoats_376 : decode cL_areBoats 376 = .ok (.iload 11, 2) := by decide +kernel
theorem dL_areBoats_378 : decode cL_areBoats 378 = .ok (.ifCond .ne 5, 3) := by decide +kernel
theorem dL_areBoats_381 : decode cL_areBoats 381 = .ok (.iconst 0, 1) := by decide +kernel
theorem dL_areBoats_382 : decode cL_areBoats 382 = .ok (.ireturn, 1) := by decide +kernel
theorem dL_areBoats_383 : decode cL_areBoats 383 = .ok (.iinc 4 1, 3) := by decide +kernel
theorem dL_areBoats_386 : decode cL_areBoats 386 = .ok (.goto (-369), 3) := by decide +kernel
theorem dL_areBoats_389 : decode cL_areBoats 389 = .ok (.iload_n 1, 1) := by decide +kernel
theorem dL_areBoats_390 : decode cL_areBoats 390 = .ok (.iconst 1, 1) := by decide +kernel
theorem dL_areBoats_391 : decode cL_areBoats 391 = .ok (.iload_n 2, 1) := by decide +kernel
theorem dL_areBoats_392 : decode cL_areBoats 392 = .ok (.iconst 1, 1) := by decide +kernel
theorem dL_areBoats_393 : decode cL_areBoats 393 = .ok (.iadd, 1) := by decide +kernel
theorem dL_areBoats_394 : decode cL_areBoats 394 = .ok (.ishl, 1) := by decide +kernel
theorem dL_areBoats_395 : decode cL_areBoats 395 = .ok (.iconst 2, 1) := by decide +kernel
theorem dL_areBoats_396 : decode cL_areBoats 396 = .ok (.isub, 1) := by decide +kernel
theorem dL_areBoats_397 : decode cL_areBoats 397 = .ok (.if_icmp .ne 19, 3) := by decide +kernel
theorem dL_areBoats_400 : decode cL_areBoats 400 = .ok (.aload_n 0, 1) := by decide +kernel
theorem dL_areBoats_401 : decode cL_areBoats 401 = .ok (.iload_n 2, 1) := by decide +kernel
theorem dL_areBoats_402 : decode cL_areBoats 402 = .ok (.iconst 1, 1) := by decide +kernel
theorem dL_areBoats_403 : decode cL_areBoats 403 = .ok (.iadd, 1) := by decide +kernel
theorem dL_areBoats_404 : decode cL_areBoats 404 = .ok (.invokevirtual 33, 3) := by decide +kernel
theorem dL_areBoats_407 : decode cL_areBoats 407 = .ok (.bipush (-5), 2) := by decide +kernel
theorem dL_areBoats_409 : decode cL_areBoats 409 = .ok (.if_icmp .ne 7, 3) := by decide +kernel
theorem dL_areBoats_412 : decode cL_areBoats 412 = .ok (.iconst 1, 1) := by decide +kernel
theorem dL_areBoats_413 : decode cL_areBoats 413 = .ok (.goto 4, 3) := by decide +kernel
theorem dL_areBoats_416 : decode cL_areBoats 416 = .ok (.iconst 0, 1) := by decide +kernel
theorem dL_areBoats_417 : decode cL_areBoats 417 = .ok (.ireturn, 1) := by decide +kernel
theorem dL_areProtests_0 : decode cL_areProtests 0 = .ok (.aload_n 0, 1) := by decide +kernel
theorem dL_areProtests_1 : decode cL_areProtests 1 = .ok (.iconst 1, 1) := by decide +kernel
theorem dL_areProtests_2 : decode cL_areProtests 2 = .ok (.invokevirtual 20, 3) := by decide +kernel
theorem dL_areProtests_5 : decode cL_areProtests 5 = .ok (.iconst 1, 1) := by decide +kernel
theorem dL_areProtests_6 : decode cL_areProtests 6 = .ok (.isub, 1) := by decide +kernel
theorem dL_areProtests_7 : decode cL_areProtests 7 = .ok (.istore_n 2, 1) := by decide +kernel
theorem dL_areProtests_8 : decode cL_areProtests 8 = .ok (.iconst 0, 1) := by decide +kernel
theorem dL_areProtests_9 : decode cL_areProtests 9 = .ok (.istore_n 3, 1) := by decide +kernel
theorem dL_areProtests_10 : decode cL_areProtests 10 = .ok (.iload_n 3, 1) := by decide +kernel
theorem dL_areProtests_11 : decode cL_areProtests 11 = .ok (.aload_n 0, 1) := by decide +kernel
theorem dL_areProtests_12 : decode cL_areProtests 12 = .ok (.iconst 0, 1) := by decide +kernel
theorem dL_areProtests_13 : decode cL_areProtests 13 = .ok (.invokevirtual 20, 3) := by decide +kernel
theorem dL_areProtests_16 : decode cL_areProtests 16 = .ok (.if_icmp .ge 152, 3) := by decide +kernel
theorem dL_areProtests_19 : decode cL_areProtests 19 = .ok (.iload_n 2, 1) := by decide +kernel
theorem dL_areProtests_20 : decode cL_areProtests 20 = .ok (.ifCond .lt 148, 3) := by decide +kernel
theorem dL_areProtests_23 : decode cL_areProtests 23 = .ok (.iconst 0, 1) := by decide +kernel
theorem dL_areProtests_24 : decode cL_areProtests 24 = .ok (.istore 4, 2) := by decide +kernel
theorem dL_areProtests_26 : decode cL_areProtests 26 = .ok (.iconst 0, 1) := by decide +kernel
theorem dL_areProtests_27 : decode cL_areProtests 27 = .ok (.istore 5, 2) := by decide +kernel
theorem dL_areProtests_29 : decode cL_areProtests 29 = .ok (.iconst 0, 1) := by decide +kernel
theorem dL_areProtests_30 : decode cL_areProtests 30 = .ok (.istore 6, 2) := by decide +kernel
theorem dL_areProtests_32 : decode cL_areProtests 32 = .ok (.iload 6, 2) := by decide +kernel
theorem dL_areProtests_34 : decode cL_areProtests 34 = .ok (.aload_n 0, 1) := by decide +kernel
theorem dL_areProtests_35 : decode cL_areProtests 35 = .ok (.iconst 5, 1) := by decide +kernel
theorem dL_areProtests_36 : decode cL_areProtests 36 = .ok (.invokevirtual 20, 3) := by decide +kernel
theorem dL_areProtests_39 : decode cL_areProtests 39 = .ok (.if_icmp .ge 73, 3) := by decide +kernel
theorem dL_areProtests_42 : decode cL_areProtests 42 = .ok (.iload 4, 2) := by decide +kernel
theorem dL_areProtests_44 : decode cL_areProtests 44 = .ok (.aload_n 0, 1) := by decide +kernel
theorem dL_areProtests_45 : decode cL_areProtests 45 = .ok (.iload 6, 2) := by decide +kernel
theorem dL_areProtests_47 : decode cL_areProtests 47 = .ok (.iconst 1, 1) := by decide +kernel
theorem dL_areProtests_48 : decode cL_areProtests 48 = .ok (.invokevirtual 40, 3) := by decide +kernel
theorem dL_areProtests_51 : decode cL_areProtests 51 = .ok (.iload_n 3, 1) := by decide +kernel
theorem dL_areProtests_52 : decode cL_areProtests 52 = .ok (.if_icmp .ne 18, 3) := by decide +kernel
theorem dL_areProtests_55 : decode cL_areProtests 55 = .ok (.aload_n 0, 1) := by decide +kernel
theorem dL_areProtests_56 : decode cL_areProtests 56 = .ok (.iload 6, 2) := by decide +kernel
theorem dL_areProtests_58 : decode cL_areProtests 58 = .ok (.iconst 3, 1) := by decide +kernel
theorem dL_areProtests_59 : decode cL_areProtests 59 = .ok (.invokevirtual 40, 3) := by decide +kernel
theorem dL_areProtests_62 : decode cL_areProtests 62 = .ok (.iconst 3, 1) := by decide +kernel
theorem dL_areProtests_63 : decode cL_areProtests 63 = .ok (.if_icmp .ne 7, 3) := by decide +kernel
theorem dL_areProtests_66 : decode cL_areProtests 66 = .ok (.iconst 1, 1) := by decide +kernel
theorem dL_areProtests_67 : decode cL_areProtests 67 = .ok (.goto 4, 3) := by decide +kernel
theorem dL_areProtests_70 : decode cL_areProtests 70 = .ok (.iconst 0, 1) := by decide +kernel
theorem dL_areProtests_71 : decode cL_areProtests 71 = .ok (.iadd, 1) := by decide +kernel
theorem dL_areProtests_72 : decode cL_areProtests 72 = .ok (.istore 4, 2) := by decide +kernel
theorem dL_areProtests_74 : decode cL_areProtests 74 = .ok (.iload 5, 2) := by decide +kernel
theorem dL_areProtests_76 : decode cL_areProtests 76 = .ok (.aload_n 0, 1) := by decide +kernel
theorem dL_areProtests_77 : decode cL_areProtests 77 = .ok (.iload 6, 2) := by decide +kernel
theorem dL_areProtests_79 : decode cL_areProtests 79 = .ok (.iconst 1, 1) := by decide +kernel
theorem dL_areProtests_80 : decode cL_areProtests 80 = .ok (.invokevirtual 40, 3) := by decide +kernel
theorem dL_areProtests_83 : decode cL_areProtests 83 = .ok (.iload_n 3, 1) := by decide +kernel
theorem dL_areProtests_84 : decode cL_areProtests 84 = .ok (.if_icmp .ne 18, 3) := by decide +kernel
theorem dL_areProtests_87 : decode cL_areProtests 87 = .ok (.aload_n 0, 1) := by decide +kernel
theorem dL_areProtests_88 : decode cL_areProtests 88 = .ok (.iload 6, 2) := by decide +kernel
theorem dL_areProtests_90 : decode cL_areProtests 90 = .ok (.iconst 3, 1) := by decide +kernel
theorem dL_areProtests_91 : decode cL_areProtests 91 = .ok (.invokevirtual 40, 3) := by decide +kernel
theorem dL_areProtests_94 : decode cL_areProtests 94 = .ok (.iconst 2, 1) := by decide +kernel
theorem dL_areProtests_95 : decode cL_areProtests 95 = .ok (.if_icmp .ne 7, 3) := by decide +kernel
theorem dL_areProtests_98 : decode cL_areProtests 98 = .ok (.iconst 1, 1) := by decide +kernel
theorem dL_areProtests_99 : decode cL_areProtests 99 = .ok (.goto 4, 3) := by decide +kernel
theorem dL_areProtests_102 : decode cL_areProtests 102 = .ok (.iconst 0, 1) := by decide +kernel
theorem dL_areProtests_103 : decode cL_areProtests 103 = .ok (.iadd, 1) := by decide +kernel
theorem dL_areProtests_104 : decode cL_areProtests 104 = .ok (.istore 5, 2) := by decide +kernel
theorem dL_areProtests_106 : decode cL_areProtests 106 = .ok (.iinc 6 1, 3) := by decide +kernel
theorem dL_areProtests_109 : decode cL_areProtests 109 = .ok (.goto (-77), 3) := by decide +kernel
theorem dL_areProtests_112 : decode cL_areProtests 112 = .ok (.aload_n 0, 1) := by decide +kernel
theorem dL_areProtests_113 : decode cL_areProtests 113 = .ok (.iload_n 2, 1) := by decide +kernel
theorem dL_areProtests_114 : decode cL_areProtests 114 = .ok (.iload_n 3, 1) := by decide +kernel
theorem dL_areProtests_115 : decode cL_areProtests 115 = .ok (.iconst 4, 1) := by decide +kernel
theorem dL_areProtests_116 : decode cL_areProtests 116 = .ok (.invokevirtual 10, 3) := by decide +kernel
theorem dL_areProtests_119 : decode cL_areProtests 119 = .ok (.iload 4, 2) := by decide +kernel
theorem dL_areProtests_121 : decode cL_areProtests 121 = .ok (.ifCond .le 7, 3) := by decide +kernel
theorem dL_areProtests_124 : decode cL_areProtests 124 = .ok (.iconst 1, 1) := by decide +kernel
theorem dL_areProtests_125 : decode cL_areProtests 125 = .ok (.goto 4, 3) := by decide +kernel
theorem dL_areProtests_128 : decode cL_areProtests 128 = .ok (.iconst 0, 1) := by decide +kernel
theorem dL_areProtests_129 : decode cL_areProtests 129 = .ok (.if_icmp .ne 31, 3) := by decide +kernel
theorem dL_areProtests_132 : decode cL_areProtests 132 = .ok (.aload_n 0, 1) := by decide +kernel
theorem dL_areProtests_133 : decode cL_areProtests 133 = .ok (.iload_n 2, 1) := by decide +kernel
theorem dL_areProtests_134 : decode cL_areProtests 134 = .ok (.iload_n 3, 1) := by decide +kernel
theorem dL_areProtests_135 : decode cL_areProtests 135 = .ok (.iconst 3, 1) := by decide +kernel
theorem dL_areProtests_136 : decode cL_areProtests 136 = .ok (.invokevirtual 10, 3) := by decide +kernel
theorem dL_areProtests_139 : decode cL_areProtests 139 = .ok (.ifCond .le 7, 3) := by decide +kernel
theorem dL_areProtests_142 : decode cL_areProtests 142 = .ok (.iconst 1, 1) := by decide +kernel
theorem dL_areProtests_143 : decode cL_areProtests 143 = .ok (.goto 4, 3) := by decide +kernel
theorem dL_areProtests_146 : decode cL_areProtests 146 = .ok (.iconst 0, 1) := by decide +kernel
theorem dL_areProtests_147 : decode cL_areProtests 147 = .ok (.iload 5, 2) := by decide +kernel
theorem dL_areProtests_149 : decode cL_areProtests 149 = .ok (.ifCond .le 7, 3) := by decide +kernel
theorem dL_areProtests_152 : decode cL_areProtests 152 = .ok (.iconst 1, 1) := by decide +kernel
theorem dL_areProtests_153 : decode cL_areProtests 153 = .ok (.goto 4, 3) := by decide +kernel
theorem dL_areProtests_156 : decode cL_areProtests 156 = .ok (.iconst 0, 1) := by decide +kernel
theorem dL_areProtests_157 : decode cL_areProtests 157 = .ok (.if_icmp .eq 5, 3) := by decide +kernel
theorem dL_areProtests_160 : decode cL_areProtests 160 = .ok (.iconst 0, 1) := by decide +kernel
theorem dL_areProtests_161 : decode cL_areProtests 161 = .ok (.ireturn, 1) := by decide +kernel
theorem dL_areProtests_162 : decode cL_areProtests 162 = .ok (.iinc 3 1, 3) := by decide +kernel
theorem dL_areProtests_165 : decode cL_areProtests 165 = .ok (.goto (-155), 3) := by decide +kernel
theorem dL_areProtests_168 : decode cL_areProtests 168 = .ok (.iconst 0, 1) := by decide +kernel
theorem dL_areProtests_169 : decode cL_areProtests 169 = .ok (.istore_n 3, 1) := by decide +kernel
theorem dL_areProtests_170 : decode cL_areProtests 170 = .ok (.iload_n 3, 1) := by decide +kernel
theorem dL_areProtests_171 : decode cL_areProtests 171 = .ok (.aload_n 0, 1) := by decide +kernel
theorem dL_areProtests_172 : decode cL_areProtests 172 = .ok (.iconst 5, 1) := by decide +kernel
theorem dL_areProtests_173 : decode cL_areProtests 173 = .ok (.invokevirtual 20, 3) := by decide +kernel
theorem dL_areProtests_176 : decode cL_areProtests 176 = .ok (.if_icmp .ge 71, 3) := by decide +kernel
theorem dL_areProtests_179 : decode cL_areProtests 179 = .ok (.aload_n 0, 1) := by decide +kernel
theorem dL_areProtests_180 : decode cL_areProtests 180 = .ok (.iload_n 3, 1) := by decide +kernel
theorem dL_areProtests_181 : decode cL_areProtests 181 = .ok (.iconst 3, 1) := by decide +kernel
theorem dL_areProtests_182 : decode cL_areProtests 182 = .ok (.invokevirtual 40, 3) := by decide +kernel
theorem dL_areProtests_185 : decode cL_areProtests 185 = .ok (.aload_n 1, 1) := by decide +kernel
theorem dL_areProtests_186 : decode cL_areProtests 186 = .ok (.iload_n 3, 1) := by decide +kernel
theorem dL_areProtests_187 : decode cL_areProtests 187 = .ok (.iaload, 1) := by decide +kernel
theorem dL_areProtests_188 : decode cL_areProtests 188 = .ok (.if_icmp .lt 42, 3) := by decide +kernel
theorem dL_areProtests_191 : decode cL_areProtests 191 = .ok (.aload_n 0, 1) := by decide +kernel
theorem dL_areProtests_192 : decode cL_areProtests 192 = .ok (.iload_n 3, 1) := by decide +kernel
theorem dL_areProtests_193 : decode cL_areProtests 193 = .ok (.iconst 3, 1) := by decide +kernel
theorem dL_areProtests_194 : decode cL_areProtests 194 = .ok (.invokevirtual 40, 3) := by decide +kernel
theorem dL_areProtests_197 : decode cL_areProtests 197 = .ok (.iconst 4, 1) := by decide +kernel
theorem dL_areProtests_198 : decode cL_areProtests 198 = .ok (.if_icmp .gt 32, 3) := by decide +kernel
theorem dL_areProtests_201 : decode cL_areProtests 201 = .ok (.aload_n 0, 1) := by decide +kernel
theorem dL_areProtests_202 : decode cL_areProtests 202 = .ok (.iload_n 3, 1) := by decide +kernel
theorem dL_areProtests_203 : decode cL_areProtests 203 = .ok (.iconst 0, 1) := by decide +kernel
theorem dL_areProtests_204 : decode cL_areProtests 204 = .ok (.invokevirtual 40, 3) := by decide +kernel
theorem dL_areProtests_207 : decode cL_areProtests 207 = .ok (.aload_n 0, 1) := by decide +kernel
theorem dL_areProtests_208 : decode cL_areProtests 208 = .ok (.iload_n 3, 1) := by decide +kernel
theorem dL_areProtests_209 : decode cL_areProtests 209 = .ok (.iconst 1, 1) := by decide +kernel
theorem dL_areProtests_210 : decode cL_areProtests 210 = .ok (.invokevirtual 40, 3) := by decide +kernel
theorem dL_areProtests_213 : decode cL_areProtests 213 = .ok (.if_icmp .eq 17, 3) := by decide +kernel
theorem dL_areProtests_216 : decode cL_areProtests 216 = .ok (.aload_n 0, 1) := by decide +kernel
theorem dL_areProtests_217 : decode cL_areProtests 217 = .ok (.iload_n 3, 1) := by decide +kernel
theorem dL_areProtests_218 : decode cL_areProtests 218 = .ok (.iconst 2, 1) := by decide +kernel
theorem dL_areProtests_219 : decode cL_areProtests 219 = .ok (.invokevirtual 40, 3) := by decide +kernel
theorem dL_areProtests_222 : decode cL_areProtests 222 = .ok (.aload_n 0, 1) := by decide +kernel
theorem dL_areProtests_223 : decode cL_areProtests 223 = .ok (.iconst 3, 1) := by decide +kernel
theorem dL_areProtests_224 : decode cL_areProtests 224 = .ok (.invokevirtual 20, 3) := by decide +kernel
theorem dL_areProtests_227 : decode cL_areProtests 227 = .ok (.if_icmp .le 5, 3) := by decide +kernel
theorem dL_areProtests_230 : decode cL_areProtests 230 = .ok (.iconst 0, 1) := by decide +kernel
theorem dL_areProtests_231 : decode cL_areProtests 231 = .ok (.ireturn, 1) := by decide +kernel
theorem dL_areProtests_232 : decode cL_areProtests 232 = .ok (.aload_n 1, 1) := by decide +kernel
theorem dL_areProtests_233 : decode cL_areProtests 233 = .ok (.iload_n 3, 1) := by decide +kernel
theorem dL_areProtests_234 : decode cL_areProtests 234 = .ok (.aload_n 0, 1) := by decide +kernel
theorem dL_areProtests_235 : decode cL_areProtests 235 = .ok (.iload_n 3, 1) := by decide +kernel
theorem dL_areProtests_236 : decode cL_areProtests 236 = .ok (.iconst 3, 1) := by decide +kernel
theorem dL_areProtests_237 : decode cL_areProtests 237 = .ok (.invokevirtual 40, 3) := by decide +kernel
theorem dL_areProtests_240 : decode cL_areProtests 240 = .ok (.iastore, 1) := by decide +kernel
theorem dL_areProtests_241 : decode cL_areProtests 241 = .ok (.iinc 3 1, 3) := by decide +kernel
theorem dL_areProtests_244 : decode cL_areProtests 244 = .ok (.goto (-74), 3) := by decide +kernel
theorem dL_areProtests_247 : decode cL_areProtests 247 = .ok (.aload_n 0, 1) := by decide +kernel
theorem dL_areProtests_248 : decode cL_areProtests 248 = .ok (.iconst 5, 1) := by decide +kernel
theorem dL_areProtests_249 : decode cL_areProtests 249 = .ok (.invokevirtual 20, 3) := by decide +kernel
theorem dL_areProtests_252 : decode cL_areProtests 252 = .ok (.istore_n 3, 1) := by decide +kernel
theorem dL_areProtests_253 : decode cL_areProtests 253 = .ok (.iload_n 3, 1) := by decide +kernel
theorem dL_areProtests_254 : decode cL_areProtests 254 = .ok (.bipush 10, 2) := by decide +kernel
theorem dL_areProtests_256 : decode cL_areProtests 256 = .ok (.if_icmp .ge 13, 3) := by decide +kernel
theorem dL_areProtests_259 : decode cL_areProtests 259 = .ok (.aload_n 1, 1) := by decide +kernel
theorem dL_areProtests_260 : decode cL_areProtests 260 = .ok (.iload_n 3, 1) := by decide +kernel
theorem dL_areProtests_261 : decode cL_areProtests 261 = .ok (.iconst 0, 1) := by decide +kernel
theorem dL_areProtests_262 : decode cL_areProtests 262 = .ok (.iastore, 1) := by decide +kernel
theorem dL_areProtests_263 : decode cL_areProtests 263 = .ok (.iinc 3 1, 3) := by decide +kernel
theorem dL_areProtests_266 : decode cL_areProtests 266 = .ok (.goto (-13), 3) := by decide +kernel
theorem dL_areProtests_269 : decode cL_areProtests 269 = .ok (.aload_n 0, 1) := by decide +kernel
theorem dL_areProtests_270 : decode cL_areProtests 270 = .ok (.iconst 5, 1) := by decide +kernel
theorem dL_areProtests_271 : decode cL_areProtests 271 = .ok (.invokevirtual 20, 3) := by decide +kernel
theorem dL_areProtests_274 : decode cL_areProtests 274 = .ok (.bipush 10, 2) := by decide +kernel
theorem dL_areProtests_276 : decode cL_areProtests 276 = .ok (.if_icmp .gt 7, 3) := by decide +kernel
theorem dL_areProtests_279 : decode cL_areProtests 279 = .ok (.iconst 1, 1) := by decide +kernel
theorem dL_areProtests_280 : decode cL_areProtests 280 = .ok (.goto 4, 3) := by decide +kernel
theorem dL_areProtests_283 : decode cL_areProtests 283 = .ok (.iconst 0, 1) := by decide +kernel
theorem dL_areProtests_284 : decode cL_areProtests 284 = .ok (.ireturn, 1) := by decide +kernel
theorem dL_finishes_0 : decode cL_finishes 0 = .ok (.aload_n 0, 1) := by decide +kernel
theorem dL_finishes_1 : decode cL_finishes 1 = .ok (.iload_n 1, 1) := by decide +kernel
theorem dL_finishes_2 : decode cL_finishes 2 = .ok (.invokevirtual 43, 3) := by decide +kernel
theorem dL_finishes_5 : decode cL_finishes 5 = .ok (.istore_n 2, 1) := by decide +kernel
theorem dL_finishes_6 : decode cL_finishes 6 = .ok (.aload_n 0, 1) := by decide +kernel
theorem dL_finishes_7 : decode cL_finishes 7 = .ok (.iconst 1, 1) := by decide +kernel
theorem dL_finishes_8 : decode cL_finishes 8 = .ok (.invokevirtual 20, 3) := by decide +kernel
theorem dL_finishes_11 : decode cL_finishes 11 = .ok (.iconst 1, 1) := by decide +kernel
theorem dL_finishes_12 : decode cL_finishes 12 = .ok (.isub, 1) := by decide +kernel
theorem dL_finishes_13 : decode cL_finishes 13 = .ok (.istore_n 3, 1) := by decide +kernel
theorem dL_finishes_14 : decode cL_finishes 14 = .ok (.aload_n 0, 1) := by decide +kernel
theorem dL_finishes_15 : decode cL_finishes 15 = .ok (.invokevirtual 46, 3) := by decide +kernel
theorem dL_finishes_18 : decode cL_finishes 18 = .ok (.istore 4, 2) := by decide +kernel
theorem dL_finishes_20 : decode cL_finishes 20 = .ok (.aload_n 0, 1) := by decide +kernel
theorem dL_finishes_21 : decode cL_finishes 21 = .ok (.iload_n 3, 1) := by decide +kernel
theorem dL_finishes_22 : decode cL_finishes 22 = .ok (.iconst 0, 1) := by decide +kernel
theorem dL_finishes_23 : decode cL_finishes 23 = .ok (.invokevirtual 16, 3) := by decide +kernel
theorem dL_finishes_26 : decode cL_finishes 26 = .ok (.aload_n 0, 1) := by decide +kernel
theorem dL_finishes_27 : decode cL_finishes 27 = .ok (.iload_n 3, 1) := by decide +kernel
theorem dL_finishes_28 : decode cL_finishes 28 = .ok (.iconst 1, 1) := by decide +kernel
theorem dL_finishes_29 : decode cL_finishes 29 = .ok (.invokevirtual 16, 3) := by decide +kernel
theorem dL_finishes_32 : decode cL_finishes 32 = .ok (.imul, 1) := by decide +kernel
theorem dL_finishes_33 : decode cL_finishes 33 = .ok (.istore 5, 2) := by decide +kernel
theorem dL_finishes_35 : decode cL_finishes 35 = .ok (.aload_n 0, 1) := by decide +kernel
theorem dL_finishes_36 : decode cL_finishes 36 = .ok (.iload_n 3, 1) := by decide +kernel
theorem dL_finishes_37 : decode cL_finishes 37 = .ok (.bipush 6, 2) := by decide +kernel
theorem dL_finishes_39 : decode cL_finishes 39 = .ok (.invokevirtual 16, 3) := by decide +kernel
theorem dL_finishes_42 : decode cL_finishes 42 = .ok (.istore 6, 2) := by decide +kernel
theorem dL_finishes_44 : decode cL_finishes 44 = .ok (.iload 6, 2) := by decide +kernel
theorem dL_finishes_46 : decode cL_finishes 46 = .ok (.ifCond .ge 7, 3) := by decide +kernel
theorem dL_finishes_49 : decode cL_finishes 49 = .ok (.iconst (-1), 1) := by decide +kernel
theorem dL_finishes_50 : decode cL_finishes 50 = .ok (.goto 12, 3) := by decide +kernel
theorem dL_finishes_53 : decode cL_finishes 53 = .ok (.aload_n 0, 1) := by decide +kernel
theorem dL_finishes_54 : decode cL_finishes 54 = .ok (.iload_n 3, 1) := by decide +kernel
theorem dL_finishes_55 : decode cL_finishes 55 = .ok (.iload 6, 2) := by decide +kernel
theorem dL_finishes_57 : decode cL_finishes 57 = .ok (.bipush 6, 2) := by decide +kernel
theorem dL_finishes_59 : decode cL_finishes 59 = .ok (.invokevirtual 10, 3) := by decide +kernel
theorem dL_finishes_62 : decode cL_finishes 62 = .ok (.istore 7, 2) := by decide +kernel
theorem dL_finishes_64 : decode cL_finishes 64 = .ok (.aload_n 0, 1) := by decide +kernel
theorem dL_finishes_65 : decode cL_finishes 65 = .ok (.iload_n 3, 1) := by decide +kernel
theorem dL_finishes_66 : decode cL_finishes 66 = .ok (.iload_n 1, 1) := by decide +kernel
theorem dL_finishes_67 : decode cL_finishes 67 = .ok (.iconst 1, 1) := by decide +kernel
theorem dL_finishes_68 : decode cL_finishes 68 = .ok (.invokevirtual 10, 3) := by decide +kernel
theorem dL_finishes_71 : decode cL_finishes 71 = .ok (.iload 5, 2) := by decide +kernel
theorem dL_finishes_73 : decode cL_finishes 73 = .ok (.if_icmp .ge 27, 3) := by decide +kernel
theorem dL_finishes_76 : decode cL_finishes 76 = .ok (.aload_n 0, 1) := by decide +kernel
theorem dL_finishes_77 : decode cL_finishes 77 = .ok (.iload_n 1, 1) := by decide +kernel
theorem dL_finishes_78 : decode cL_finishes 78 = .ok (.aload_n 0, 1) := by decide +kernel
theorem dL_finishes_79 : decode cL_finishes 79 = .ok (.iload_n 3, 1) := by decide +kernel
theorem dL_finishes_80 : decode cL_finishes 80 = .ok (.iload_n 1, 1) := by decide +kernel
theorem dL_finishes_81 : decode cL_finishes 81 = .ok (.iconst 1, 1) := by decide +kernel
theorem dL_finishes_82 : decode cL_finishes 82 = .ok (.invokevirtual 10, 3) := by decide +kernel
theorem dL_finishes_85 : decode cL_finishes 85 = .ok (.aload_n 0, 1) := by decide +kernel
theorem dL_finishes_86 : decode cL_finishes 86 = .ok (.iload_n 3, 1) := by decide +kernel
theorem dL_finishes_87 : decode cL_finishes 87 = .ok (.iconst 0, 1) := by decide +kernel
theorem dL_finishes_88 : decode cL_finishes 88 = .ok (.invokevirtual 16, 3) := by decide +kernel
theorem dL_finishes_91 : decode cL_finishes 91 = .ok (.irem, 1) := by decide +kernel
theorem dL_finishes_92 : decode cL_finishes 92 = .ok (.invokevirtual 50, 3) := by decide +kernel
theorem dL_finishes_95 : decode cL_finishes 95 = .ok (.istore 8, 2) := by decide +kernel
theorem dL_finishes_97 : decode cL_finishes 97 = .ok (.goto (-33), 3) := by decide +kernel
theorem dL_finishes_100 : decode cL_finishes 100 = .ok (.iload_n 2, 1) := by decide +kernel
theorem dL_finishes_101 : decode cL_finishes 101 = .ok (.bipush (-5), 2) := by decide +kernel
theorem dL_finishes_103 : decode cL_finishes 103 = .ok (.if_icmp .eq 12, 3) := by decide +kernel
theorem dL_finishes_106 : decode cL_finishes 106 = .ok (.iload_n 2, 1) := by decide +kernel
theorem dL_finishes_107 : decode cL_finishes 107 = .ok (.ifCond .lt 12, 3) := by decide +kernel
theorem dL_finishes_110 : decode cL_finishes 110 = .ok (.iload 6, 2) := by decide +kernel
theorem dL_finishes_112 : decode cL_finishes 112 = .ok (.ifCond .lt 7, 3) := by decide +kernel
theorem dL_finishes_115 : decode cL_finishes 115 = .ok (.iconst 1, 1) := by decide +kernel
theorem dL_finishes_116 : decode cL_finishes 116 = .ok (.goto 4, 3) := by decide +kernel
theorem dL_finishes_119 : decode cL_finishes 119 = .ok (.iconst 0, 1) := by decide +kernel
theorem dL_finishes_120 : decode cL_finishes 120 = .ok (.istore 8, 2) := by decide +kernel
theorem dL_finishes_122 : decode cL_finishes 122 = .ok (.iload_n 2, 1) := by decide +kernel
theorem dL_finishes_123 : decode cL_finishes 123 = .ok (.ifCond .le 23, 3) := by decide +kernel
theorem dL_finishes_126 : decode cL_finishes 126 = .ok (.iload 8, 2) := by decide +kernel
theorem dL_finishes_128 : decode cL_finishes 128 = .ok (.ifCond .eq 15, 3) := by decide +kernel
theorem dL_finishes_131 : decode cL_finishes 131 = .ok (.aload_n 0, 1) := by decide +kernel
theorem dL_finishes_132 : decode cL_finishes 132 = .ok (.iload_n 2, 1) := by decide +kernel
theorem dL_finishes_133 : decode cL_finishes 133 = .ok (.invokestatic 53, 3) := by decide +kernel
theorem dL_finishes_136 : decode cL_finishes 136 = .ok (.ifCond .eq 7, 3) := by decide +kernel
theorem dL_finishes_139 : decode cL_finishes 139 = .ok (.iconst 1, 1) := by decide +kernel
theorem dL_finishes_140 : decode cL_finishes 140 = .ok (.goto 4, 3) := by decide +kernel
theorem dL_finishes_143 : decode cL_finishes 143 = .ok (.iconst 0, 1) := by decide +kernel
theorem dL_finishes_144 : decode cL_finishes 144 = .ok (.istore 8, 2) := by decide +kernel
theorem dL_finishes_146 : decode cL_finishes 146 = .ok (.iload 8, 2) := by decide +kernel
theorem dL_finishes_148 : decode cL_finishes 148 = .ok (.ifCond .eq 60, 3) := by decide +kernel
theorem dL_finishes_151 : decode cL_finishes 151 = .ok (.aload_n 0, 1) := by decide +kernel
theorem dL_finishes_152 : decode cL_finishes 152 = .ok (.iload_n 1, 1) := by decide +kernel
theorem dL_finishes_153 : decode cL_finishes 153 = .ok (.invokevirtual 57, 3) := by decide +kernel
theorem dL_finishes_156 : decode cL_finishes 156 = .ok (.iconst 3, 1) := by decide +kernel
theorem dL_finishes_157 : decode cL_finishes 157 = .ok (.if_icmp .ne 51, 3) := by decide +kernel
theorem dL_finishes_160 : decode cL_finishes 160 = .ok (.iload 7, 2) := by decide +kernel
theorem dL_finishes_162 : decode cL_finishes 162 = .ok (.ifCond .lt 33, 3) := by decide +kernel
theorem dL_finishes_165 : decode cL_finishes 165 = .ok (.aload_n 0, 1) := by decide +kernel
theorem dL_finishes_166 : decode cL_finishes 166 = .ok (.iload_n 3, 1) := by decide +kernel
theorem dL_finishes_167 : decode cL_finishes 167 = .ok (.iload_n 1, 1) := by decide +kernel
theorem dL_finishes_168 : decode cL_finishes 168 = .ok (.bipush 6, 2) := by decide +kernel
theorem dL_finishes_170 : decode cL_finishes 170 = .ok (.invokevirtual 10, 3) := by decide +kernel
theorem dL_finishes_173 : decode cL_finishes 173 = .ok (.iload 7, 2) := by decide +kernel
theorem dL_finishes_175 : decode cL_finishes 175 = .ok (.if_icmp .ge 7, 3) := by decide +kernel
theorem dL_finishes_178 : decode cL_finishes 178 = .ok (.iconst 1, 1) := by decide +kernel
theorem dL_finishes_179 : decode cL_finishes 179 = .ok (.goto 4, 3) := by decide +kernel
theorem dL_finishes_182 : decode cL_finishes 182 = .ok (.iconst 0, 1) := by decide +kernel
theorem dL_finishes_183 : decode cL_finishes 183 = .ok (.iload_n 2, 1) := by decide +kernel
theorem dL_finishes_184 : decode cL_finishes 184 = .ok (.ifCond .lt 7, 3) := by decide +kernel
theorem dL_finishes_187 : decode cL_finishes 187 = .ok (.iconst 1, 1) := by decide +kernel
theorem dL_finishes_188 : decode cL_finishes 188 = .ok (.goto 4, 3) := by decide +kernel
theorem dL_finishes_191 : decode cL_finishes 191 = .ok (.iconst 0, 1) := by decide +kernel
theorem dL_finishes_192 : decode cL_finishes 192 = .ok (.if_icmp .ne 16, 3) := by decide +kernel
theorem dL_finishes_195 : decode cL_finishes 195 = .ok (.aload_n 0, 1) := by decide +kernel
theorem dL_finishes_196 : decode cL_finishes 196 = .ok (.invokevirtual 60, 3) := by decide +kernel
theorem dL_finishes_199 : decode cL_finishes 199 = .ok (.iload 4, 2) := by decide +kernel
theorem dL_finishes_201 : decode cL_finishes 201 = .ok (.if_icmp .ne 7, 3) := by decide +kernel
theorem dL_finishes_204 : decode cL_finishes 204 = .ok (.iconst 1, 1) := by decide +kernel
theorem dL_finishes_205 : decode cL_finishes 205 = .ok (.goto 4, 3) := by decide +kernel
theorem dL_finishes_208 : decode cL_finishes 208 = .ok (.iconst 0, 1) := by decide +kernel
theorem dL_finishes_209 : decode cL_finishes 209 = .ok (.istore 8, 2) := by decide +kernel
theorem dL_finishes_211 : decode cL_finishes 211 = .ok (.iload 8, 2) := by decide +kernel
theorem dL_finishes_213 : decode cL_finishes 213 = .ok (.ifCond .eq 7, 3) := by decide +kernel
theorem dL_finishes_216 : decode cL_finishes 216 = .ok (.iload_n 2, 1) := by decide +kernel
theorem dL_finishes_217 : decode cL_finishes 217 = .ok (.ifCond .ge 6, 3) := by decide +kernel
theorem dL_finishes_220 : decode cL_finishes 220 = .ok (.iload 8, 2) := by decide +kernel
theorem dL_finishes_222 : decode cL_finishes 222 = .ok (.ireturn, 1) := by decide +kernel
theorem dL_finishes_223 : decode cL_finishes 223 = .ok (.aload_n 0, 1) := by decide +kernel
theorem dL_finishes_224 : decode cL_finishes 224 = .ok (.iload_n 3, 1) := by decide +kernel
theorem dL_finishes_225 : decode cL_finishes 225 = .ok (.iload_n 1, 1) := by decide +kernel
theorem dL_finishes_226 : decode cL_finishes 226 = .ok (.iconst 1, 1) := by decide +kernel
theorem dL_finishes_227 : decode cL_finishes 227 = .ok (.invokevirtual 10, 3) := by decide +kernel
theorem dL_finishes_230 : decode cL_finishes 230 = .ok (.iload 5, 2) := by decide +kernel
theorem dL_finishes_232 : decode cL_finishes 232 = .ok (.if_icmp .ge 27, 3) := by decide +kernel
theorem dL_finishes_235 : decode cL_finishes 235 = .ok (.aload_n 0, 1) := by decide +kernel
theorem dL_finishes_236 : decode cL_finishes 236 = .ok (.iload_n 1, 1) := by decide +kernel
theorem dL_finishes_237 : decode cL_finishes 237 = .ok (.aload_n 0, 1) := by decide +kernel
theorem dL_finishes_238 : decode cL_finishes 238 = .ok (.iload_n 3, 1) := by decide +kernel
theorem dL_finishes_239 : decode cL_finishes 239 = .ok (.iload_n 1, 1) := by decide +kernel
theorem dL_finishes_240 : decode cL_finishes 240 = .ok (.iconst 1, 1) := by decide +kernel
theorem dL_finishes_241 : decode cL_finishes 241 = .ok (.invokevirtual 10, 3) := by decide +kernel
theorem dL_finishes_244 : decode cL_finishes 244 = .ok (.aload_n 0, 1) := by decide +kernel
theorem dL_finishes_245 : decode cL_finishes 245 = .ok (.iload_n 3, 1) := by decide +kernel
theorem dL_finishes_246 : decode cL_finishes 246 = .ok (.iconst 0, 1) := by decide +kernel
