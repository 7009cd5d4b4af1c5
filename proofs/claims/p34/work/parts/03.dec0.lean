theorem dX0_init_0 : decode cX0_init 0 = .ok (.aload_n 0, 1) := by decide +kernel
theorem dX0_init_1 : decode cX0_init 1 = .ok (.invokespecial 3, 3) := by decide +kernel
theorem dX0_init_4 : decode cX0_init 4 = .ok (.aload_n 0, 1) := by decide +kernel
theorem dX0_init_5 : decode cX0_init 5 = .ok (.aload_n 1, 1) := by decide +kernel
theorem dX0_init_6 : decode cX0_init 6 = .ok (.putfield 9, 3) := by decide +kernel
theorem dX0_init_9 : decode cX0_init 9 = .ok (.return_, 1) := by decide +kernel
theorem dX0_enterBoat_0 : decode cX0_enterBoat 0 = .ok (.iload_n 1, 1) := by decide +kernel
theorem dX0_enterBoat_1 : decode cX0_enterBoat 1 = .ok (.bipush 50, 2) := by decide +kernel
theorem dX0_enterBoat_3 : decode cX0_enterBoat 3 = .ok (.if_icmp .lt 10, 3) := by decide +kernel
theorem dX0_enterBoat_6 : decode cX0_enterBoat 6 = .ok (.iload_n 1, 1) := by decide +kernel
theorem dX0_enterBoat_7 : decode cX0_enterBoat 7 = .ok (.sipush 150, 3) := by decide +kernel
theorem dX0_enterBoat_10 : decode cX0_enterBoat 10 = .ok (.if_icmp .le 6, 3) := by decide +kernel
theorem dX0_enterBoat_13 : decode cX0_enterBoat 13 = .ok (.bipush (-2), 2) := by decide +kernel
theorem dX0_enterBoat_15 : decode cX0_enterBoat 15 = .ok (.ireturn, 1) := by decide +kernel
theorem dX0_enterBoat_16 : decode cX0_enterBoat 16 = .ok (.aload_n 0, 1) := by decide +kernel
theorem dX0_enterBoat_17 : decode cX0_enterBoat 17 = .ok (.getfield 9, 3) := by decide +kernel
theorem dX0_enterBoat_20 : decode cX0_enterBoat 20 = .ok (.getfield 15, 3) := by decide +kernel
theorem dX0_enterBoat_23 : decode cX0_enterBoat 23 = .ok (.ifCond .le 6, 3) := by decide +kernel
theorem dX0_enterBoat_26 : decode cX0_enterBoat 26 = .ok (.bipush (-4), 2) := by decide +kernel
theorem dX0_enterBoat_28 : decode cX0_enterBoat 28 = .ok (.ireturn, 1) := by decide +kernel
theorem dX0_enterBoat_29 : decode cX0_enterBoat 29 = .ok (.aload_n 0, 1) := by decide +kernel
theorem dX0_enterBoat_30 : decode cX0_enterBoat 30 = .ok (.getfield 9, 3) := by decide +kernel
theorem dX0_enterBoat_33 : decode cX0_enterBoat 33 = .ok (.getfield 21, 3) := by decide +kernel
theorem dX0_enterBoat_36 : decode cX0_enterBoat 36 = .ok (.bipush 9, 2) := by decide +kernel
theorem dX0_enterBoat_38 : decode cX0_enterBoat 38 = .ok (.if_icmp .lt 6, 3) := by decide +kernel
theorem dX0_enterBoat_41 : decode cX0_enterBoat 41 = .ok (.bipush (-3), 2) := by decide +kernel
theorem dX0_enterBoat_43 : decode cX0_enterBoat 43 = .ok (.ireturn, 1) := by decide +kernel
theorem dX0_enterBoat_44 : decode cX0_enterBoat 44 = .ok (.aload_n 0, 1) := by decide +kernel
theorem dX0_enterBoat_45 : decode cX0_enterBoat 45 = .ok (.getfield 9, 3) := by decide +kernel
theorem dX0_enterBoat_48 : decode cX0_enterBoat 48 = .ok (.getfield 21, 3) := by decide +kernel
theorem dX0_enterBoat_51 : decode cX0_enterBoat 51 = .ok (.istore_n 2, 1) := by decide +kernel
theorem dX0_enterBoat_52 : decode cX0_enterBoat 52 = .ok (.aload_n 0, 1) := by decide +kernel
theorem dX0_enterBoat_53 : decode cX0_enterBoat 53 = .ok (.getfield 9, 3) := by decide +kernel
theorem dX0_enterBoat_56 : decode cX0_enterBoat 56 = .ok (.getfield 24, 3) := by decide +kernel
theorem dX0_enterBoat_59 : decode cX0_enterBoat 59 = .ok (.iload_n 2, 1) := by decide +kernel
theorem dX0_enterBoat_60 : decode cX0_enterBoat 60 = .ok (.iconst 0, 1) := by decide +kernel
theorem dX0_enterBoat_61 : decode cX0_enterBoat 61 = .ok (.iload_n 1, 1) := by decide +kernel
theorem dX0_enterBoat_62 : decode cX0_enterBoat 62 = .ok (.invokevirtual 28, 3) := by decide +kernel
theorem dX0_enterBoat_65 : decode cX0_enterBoat 65 = .ok (.aload_n 0, 1) := by decide +kernel
theorem dX0_enterBoat_66 : decode cX0_enterBoat 66 = .ok (.getfield 9, 3) := by decide +kernel
theorem dX0_enterBoat_69 : decode cX0_enterBoat 69 = .ok (.dup, 1) := by decide +kernel
theorem dX0_enterBoat_70 : decode cX0_enterBoat 70 = .ok (.getfield 21, 3) := by decide +kernel
theorem dX0_enterBoat_73 : decode cX0_enterBoat 73 = .ok (.iconst 1, 1) := by decide +kernel
theorem dX0_enterBoat_74 : decode cX0_enterBoat 74 = .ok (.iadd, 1) := by decide +kernel
theorem dX0_enterBoat_75 : decode cX0_enterBoat 75 = .ok (.putfield 21, 3) := by decide +kernel
theorem dX0_enterBoat_78 : decode cX0_enterBoat 78 = .ok (.iload_n 2, 1) := by decide +kernel
theorem dX0_enterBoat_79 : decode cX0_enterBoat 79 = .ok (.ireturn, 1) := by decide +kernel
theorem dX0_prepareRace_0 : decode cX0_prepareRace 0 = .ok (.iload_n 1, 1) := by decide +kernel
theorem dX0_prepareRace_1 : decode cX0_prepareRace 1 = .ok (.iconst 1, 1) := by decide +kernel
theorem dX0_prepareRace_2 : decode cX0_prepareRace 2 = .ok (.if_icmp .lt 31, 3) := by decide +kernel
theorem dX0_prepareRace_5 : decode cX0_prepareRace 5 = .ok (.iload_n 1, 1) := by decide +kernel
theorem dX0_prepareRace_6 : decode cX0_prepareRace 6 = .ok (.iconst 5, 1) := by decide +kernel
theorem dX0_prepareRace_7 : decode cX0_prepareRace 7 = .ok (.if_icmp .gt 26, 3) := by decide +kernel
theorem dX0_prepareRace_10 : decode cX0_prepareRace 10 = .ok (.iload_n 2, 1) := by decide +kernel
theorem dX0_prepareRace_11 : decode cX0_prepareRace 11 = .ok (.iconst 1, 1) := by decide +kernel
theorem dX0_prepareRace_12 : decode cX0_prepareRace 12 = .ok (.if_icmp .lt 21, 3) := by decide +kernel
theorem dX0_prepareRace_15 : decode cX0_prepareRace 15 = .ok (.iload_n 2, 1) := by decide +kernel
theorem dX0_prepareRace_16 : decode cX0_prepareRace 16 = .ok (.iconst 3, 1) := by decide +kernel
theorem dX0_prepareRace_17 : decode cX0_prepareRace 17 = .ok (.if_icmp .gt 16, 3) := by decide +kernel
theorem dX0_prepareRace_20 : decode cX0_prepareRace 20 = .ok (.iload_n 3, 1) := by decide +kernel
theorem dX0_prepareRace_21 : decode cX0_prepareRace 21 = .ok (.bipush 60, 2) := by decide +kernel
theorem dX0_prepareRace_23 : decode cX0_prepareRace 23 = .ok (.if_icmp .lt 10, 3) := by decide +kernel
theorem dX0_prepareRace_26 : decode cX0_prepareRace 26 = .ok (.iload_n 3, 1) := by decide +kernel
theorem dX0_prepareRace_27 : decode cX0_prepareRace 27 = .ok (.sipush 3600, 3) := by decide +kernel
theorem dX0_prepareRace_30 : decode cX0_prepareRace 30 = .ok (.if_icmp .le 6, 3) := by decide +kernel
theorem dX0_prepareRace_33 : decode cX0_prepareRace 33 = .ok (.bipush (-2), 2) := by decide +kernel
theorem dX0_prepareRace_35 : decode cX0_prepareRace 35 = .ok (.ireturn, 1) := by decide +kernel
theorem dX0_prepareRace_36 : decode cX0_prepareRace 36 = .ok (.aload_n 0, 1) := by decide +kernel
theorem dX0_prepareRace_37 : decode cX0_prepareRace 37 = .ok (.getfield 9, 3) := by decide +kernel
theorem dX0_prepareRace_40 : decode cX0_prepareRace 40 = .ok (.getfield 21, 3) := by decide +kernel
theorem dX0_prepareRace_43 : decode cX0_prepareRace 43 = .ok (.ifCond .eq 13, 3) := by decide +kernel
theorem dX0_prepareRace_46 : decode cX0_prepareRace 46 = .ok (.aload_n 0, 1) := by decide +kernel
theorem dX0_prepareRace_47 : decode cX0_prepareRace 47 = .ok (.getfield 9, 3) := by decide +kernel
theorem dX0_prepareRace_50 : decode cX0_prepareRace 50 = .ok (.invokevirtual 34, 3) := by decide +kernel
theorem dX0_prepareRace_53 : decode cX0_prepareRace 53 = .ok (.ifCond .eq 6, 3) := by decide +kernel
theorem dX0_prepareRace_56 : decode cX0_prepareRace 56 = .ok (.bipush (-4), 2) := by decide +kernel
theorem dX0_prepareRace_58 : decode cX0_prepareRace 58 = .ok (.ireturn, 1) := by decide +kernel
theorem dX0_prepareRace_59 : decode cX0_prepareRace 59 = .ok (.aload_n 0, 1) := by decide +kernel
theorem dX0_prepareRace_60 : decode cX0_prepareRace 60 = .ok (.getfield 9, 3) := by decide +kernel
theorem dX0_prepareRace_63 : decode cX0_prepareRace 63 = .ok (.getfield 15, 3) := by decide +kernel
theorem dX0_prepareRace_66 : decode cX0_prepareRace 66 = .ok (.bipush 6, 2) := by decide +kernel
theorem dX0_prepareRace_68 : decode cX0_prepareRace 68 = .ok (.if_icmp .lt 6, 3) := by decide +kernel
theorem dX0_prepareRace_71 : decode cX0_prepareRace 71 = .ok (.bipush (-3), 2) := by decide +kernel
theorem dX0_prepareRace_73 : decode cX0_prepareRace 73 = .ok (.ireturn, 1) := by decide +kernel
theorem dX0_prepareRace_74 : decode cX0_prepareRace 74 = .ok (.aload_n 0, 1) := by decide +kernel
theorem dX0_prepareRace_75 : decode cX0_prepareRace 75 = .ok (.getfield 9, 3) := by decide +kernel
theorem dX0_prepareRace_78 : decode cX0_prepareRace 78 = .ok (.getfield 15, 3) := by decide +kernel
theorem dX0_prepareRace_81 : decode cX0_prepareRace 81 = .ok (.istore 4, 2) := by decide +kernel
theorem dX0_prepareRace_83 : decode cX0_prepareRace 83 = .ok (.aload_n 0, 1) := by decide +kernel
theorem dX0_prepareRace_84 : decode cX0_prepareRace 84 = .ok (.getfield 9, 3) := by decide +kernel
theorem dX0_prepareRace_87 : decode cX0_prepareRace 87 = .ok (.getfield 38, 3) := by decide +kernel
theorem dX0_prepareRace_90 : decode cX0_prepareRace 90 = .ok (.iload 4, 2) := by decide +kernel
theorem dX0_prepareRace_92 : decode cX0_prepareRace 92 = .ok (.iconst 0, 1) := by decide +kernel
theorem dX0_prepareRace_93 : decode cX0_prepareRace 93 = .ok (.iload_n 1, 1) := by decide +kernel
theorem dX0_prepareRace_94 : decode cX0_prepareRace 94 = .ok (.invokevirtual 28, 3) := by decide +kernel
theorem dX0_prepareRace_97 : decode cX0_prepareRace 97 = .ok (.aload_n 0, 1) := by decide +kernel
theorem dX0_prepareRace_98 : decode cX0_prepareRace 98 = .ok (.getfield 9, 3) := by decide +kernel
theorem dX0_prepareRace_101 : decode cX0_prepareRace 101 = .ok (.getfield 38, 3) := by decide +kernel
theorem dX0_prepareRace_104 : decode cX0_prepareRace 104 = .ok (.iload 4, 2) := by decide +kernel
theorem dX0_prepareRace_106 : decode cX0_prepareRace 106 = .ok (.iconst 1, 1) := by decide +kernel
theorem dX0_prepareRace_107 : decode cX0_prepareRace 107 = .ok (.iload_n 2, 1) := by decide +kernel
theorem dX0_prepareRace_108 : decode cX0_prepareRace 108 = .ok (.invokevirtual 28, 3) := by decide +kernel
theorem dX0_prepareRace_111 : decode cX0_prepareRace 111 = .ok (.aload_n 0, 1) := by decide +kernel
theorem dX0_prepareRace_112 : decode cX0_prepareRace 112 = .ok (.getfield 9, 3) := by decide +kernel
theorem dX0_prepareRace_115 : decode cX0_prepareRace 115 = .ok (.dup, 1) := by decide +kernel
theorem dX0_prepareRace_116 : decode cX0_prepareRace 116 = .ok (.getfield 15, 3) := by decide +kernel
theorem dX0_prepareRace_119 : decode cX0_prepareRace 119 = .ok (.iconst 1, 1) := by decide +kernel
theorem dX0_prepareRace_120 : decode cX0_prepareRace 120 = .ok (.iadd, 1) := by decide +kernel
theorem dX0_prepareRace_121 : decode cX0_prepareRace 121 = .ok (.putfield 15, 3) := by decide +kernel
theorem dX0_prepareRace_124 : decode cX0_prepareRace 124 = .ok (.aload_n 0, 1) := by decide +kernel
theorem dX0_prepareRace_125 : decode cX0_prepareRace 125 = .ok (.getfield 9, 3) := by decide +kernel
theorem dX0_prepareRace_128 : decode cX0_prepareRace 128 = .ok (.iconst 1, 1) := by decide +kernel
theorem dX0_prepareRace_129 : decode cX0_prepareRace 129 = .ok (.putfield 41, 3) := by decide +kernel
theorem dX0_prepareRace_132 : decode cX0_prepareRace 132 = .ok (.aload_n 0, 1) := by decide +kernel
theorem dX0_prepareRace_133 : decode cX0_prepareRace 133 = .ok (.iload_n 3, 1) := by decide +kernel
theorem dX0_prepareRace_134 : decode cX0_prepareRace 134 = .ok (.invokevirtual 44, 3) := by decide +kernel
theorem dX0_prepareRace_137 : decode cX0_prepareRace 137 = .ok (.iload 4, 2) := by decide +kernel
theorem dX0_prepareRace_139 : decode cX0_prepareRace 139 = .ok (.ireturn, 1) := by decide +kernel
theorem dX0_startAnew_0 : decode cX0_startAnew 0 = .ok (.aload_n 0, 1) := by decide +kernel
theorem dX0_startAnew_1 : decode cX0_startAnew 1 = .ok (.getfield 9, 3) := by decide +kernel
theorem dX0_startAnew_4 : decode cX0_startAnew 4 = .ok (.getfield 38, 3) := by decide +kernel
theorem dX0_startAnew_7 : decode cX0_startAnew 7 = .ok (.aload_n 0, 1) := by decide +kernel
theorem dX0_startAnew_8 : decode cX0_startAnew 8 = .ok (.getfield 9, 3) := by decide +kernel
theorem dX0_startAnew_11 : decode cX0_startAnew 11 = .ok (.invokevirtual 48, 3) := by decide +kernel
theorem dX0_startAnew_14 : decode cX0_startAnew 14 = .ok (.iconst 2, 1) := by decide +kernel
theorem dX0_startAnew_15 : decode cX0_startAnew 15 = .ok (.aload_n 0, 1) := by decide +kernel
theorem dX0_startAnew_16 : decode cX0_startAnew 16 = .ok (.getfield 9, 3) := by decide +kernel
theorem dX0_startAnew_19 : decode cX0_startAnew 19 = .ok (.getfield 52, 3) := by decide +kernel
theorem dX0_startAnew_22 : decode cX0_startAnew 22 = .ok (.iload_n 1, 1) := by decide +kernel
theorem dX0_startAnew_23 : decode cX0_startAnew 23 = .ok (.iadd, 1) := by decide +kernel
theorem dX0_startAnew_24 : decode cX0_startAnew 24 = .ok (.invokevirtual 28, 3) := by decide +kernel
theorem dX0_startAnew_27 : decode cX0_startAnew 27 = .ok (.iconst 0, 1) := by decide +kernel
theorem dX0_startAnew_28 : decode cX0_startAnew 28 = .ok (.istore_n 2, 1) := by decide +kernel
theorem dX0_startAnew_29 : decode cX0_startAnew 29 = .ok (.iload_n 2, 1) := by decide +kernel
theorem dX0_startAnew_30 : decode cX0_startAnew 30 = .ok (.aload_n 0, 1) := by decide +kernel
theorem dX0_startAnew_31 : decode cX0_startAnew 31 = .ok (.getfield 9, 3) := by decide +kernel
theorem dX0_startAnew_34 : decode cX0_startAnew 34 = .ok (.getfield 21, 3) := by decide +kernel
theorem dX0_startAnew_37 : decode cX0_startAnew 37 = .ok (.if_icmp .ge 34, 3) := by decide +kernel
theorem dX0_startAnew_40 : decode cX0_startAnew 40 = .ok (.aload_n 0, 1) := by decide +kernel
theorem dX0_startAnew_41 : decode cX0_startAnew 41 = .ok (.getfield 9, 3) := by decide +kernel
theorem dX0_startAnew_44 : decode cX0_startAnew 44 = .ok (.getfield 55, 3) := by decide +kernel
theorem dX0_startAnew_47 : decode cX0_startAnew 47 = .ok (.aload_n 0, 1) := by decide +kernel
theorem dX0_startAnew_48 : decode cX0_startAnew 48 = .ok (.getfield 9, 3) := by decide +kernel
theorem dX0_startAnew_51 : decode cX0_startAnew 51 = .ok (.aload_n 0, 1) := by decide +kernel
theorem dX0_startAnew_52 : decode cX0_startAnew 52 = .ok (.getfield 9, 3) := by decide +kernel
theorem dX0_startAnew_55 : decode cX0_startAnew 55 = .ok (.invokevirtual 48, 3) := by decide +kernel
theorem dX0_startAnew_58 : decode cX0_startAnew 58 = .ok (.iload_n 2, 1) := by decide +kernel
theorem dX0_startAnew_59 : decode cX0_startAnew 59 = .ok (.invokevirtual 58, 3) := by decide +kernel
theorem dX0_startAnew_62 : decode cX0_startAnew 62 = .ok (.invokevirtual 62, 3) := by decide +kernel
theorem dX0_startAnew_65 : decode cX0_startAnew 65 = .ok (.iinc 2 1, 3) := by decide +kernel
theorem dX0_startAnew_68 : decode cX0_startAnew 68 = .ok (.goto (-39), 3) := by decide +kernel
theorem dX0_startAnew_71 : decode cX0_startAnew 71 = .ok (.aload_n 0, 1) := by decide +kernel
theorem dX0_startAnew_72 : decode cX0_startAnew 72 = .ok (.getfield 9, 3) := by decide +kernel
theorem dX0_startAnew_75 : decode cX0_startAnew 75 = .ok (.iconst 0, 1) := by decide +kernel
theorem dX0_startAnew_76 : decode cX0_startAnew 76 = .ok (.putfield 65, 3) := by decide +kernel
theorem dX0_startAnew_79 : decode cX0_startAnew 79 = .ok (.return_, 1) := by decide +kernel
theorem dX0_postponeStart_0 : decode cX0_postponeStart 0 = .ok (.iload_n 1, 1) := by decide +kernel
theorem dX0_postponeStart_1 : decode cX0_postponeStart 1 = .ok (.iconst 1, 1) := by decide +kernel
theorem dX0_postponeStart_2 : decode cX0_postponeStart 2 = .ok (.if_icmp .lt 10, 3) := by decide +kernel
theorem dX0_postponeStart_5 : decode cX0_postponeStart 5 = .ok (.iload_n 1, 1) := by decide +kernel
theorem dX0_postponeStart_6 : decode cX0_postponeStart 6 = .ok (.sipush 3600, 3) := by decide +kernel
theorem dX0_postponeStart_9 : decode cX0_postponeStart 9 = .ok (.if_icmp .le 6, 3) := by decide +kernel
theorem dX0_postponeStart_12 : decode cX0_postponeStart 12 = .ok (.bipush (-2), 2) := by decide +kernel
theorem dX0_postponeStart_14 : decode cX0_postponeStart 14 = .ok (.ireturn, 1) := by decide +kernel
theorem dX0_postponeStart_15 : decode cX0_postponeStart 15 = .ok (.aload_n 0, 1) := by decide +kernel
theorem dX0_postponeStart_16 : decode cX0_postponeStart 16 = .ok (.getfield 9, 3) := by decide +kernel
theorem dX0_postponeStart_19 : decode cX0_postponeStart 19 = .ok (.invokevirtual 34, 3) := by decide +kernel
theorem dX0_postponeStart_22 : decode cX0_postponeStart 22 = .ok (.ifCond .eq 13, 3) := by decide +kernel
theorem dX0_postponeStart_25 : decode cX0_postponeStart 25 = .ok (.aload_n 0, 1) := by decide +kernel
theorem dX0_postponeStart_26 : decode cX0_postponeStart 26 = .ok (.getfield 9, 3) := by decide +kernel
theorem dX0_postponeStart_29 : decode cX0_postponeStart 29 = .ok (.invokevirtual 68, 3) := by decide +kernel
theorem dX0_postponeStart_32 : decode cX0_postponeStart 32 = .ok (.ifCond .eq 6, 3) := by decide +kernel
theorem dX0_postponeStart_35 : decode cX0_postponeStart 35 = .ok (.bipush (-4), 2) := by decide +kernel
theorem dX0_postponeStart_37 : decode cX0_postponeStart 37 = .ok (.ireturn, 1) := by decide +kernel
theorem dX0_postponeStart_38 : decode cX0_postponeStart 38 = .ok (.aload_n 0, 1) := by decide +kernel
theorem dX0_postponeStart_39 : decode cX0_postponeStart 39 = .ok (.getfield 9, 3) := by decide +kernel
theorem dX0_postponeStart_42 : decode cX0_postponeStart 42 = .ok (.getfield 38, 3) := by decide +kernel
theorem dX0_postponeStart_45 : decode cX0_postponeStart 45 = .ok (.aload_n 0, 1) := by decide +kernel
theorem dX0_postponeStart_46 : decode cX0_postponeStart 46 = .ok (.getfield 9, 3) := by decide +kernel
theorem dX0_postponeStart_49 : decode cX0_postponeStart 49 = .ok (.invokevirtual 48, 3) := by decide +kernel
theorem dX0_postponeStart_52 : decode cX0_postponeStart 52 = .ok (.iconst 2, 1) := by decide +kernel
theorem dX0_postponeStart_53 : decode cX0_postponeStart 53 = .ok (.iload_n 1, 1) := by decide +kernel
theorem dX0_postponeStart_54 : decode cX0_postponeStart 54 = .ok (.invokevirtual 71, 3) := by decide +kernel
theorem dX0_postponeStart_57 : decode cX0_postponeStart 57 = .ok (.aload_n 0, 1) := by decide +kernel
theorem dX0_postponeStart_58 : decode cX0_postponeStart 58 = .ok (.getfield 9, 3) := by decide +kernel
theorem dX0_postponeStart_61 : decode cX0_postponeStart 61 = .ok (.invokevirtual 74, 3) := by decide +kernel
theorem dX0_postponeStart_64 : decode cX0_postponeStart 64 = .ok (.ireturn, 1) := by decide +kernel
theorem dX0_recallBoats_0 : decode cX0_recallBoats 0 = .ok (.aload_n 0, 1) := by decide +kernel
theorem dX0_recallBoats_1 : decode cX0_recallBoats 1 = .ok (.getfield 9, 3) := by decide +kernel
theorem dX0_recallBoats_4 : decode cX0_recallBoats 4 = .ok (.invokevirtual 34, 3) := by decide +kernel
theorem dX0_recallBoats_7 : decode cX0_recallBoats 7 = .ok (.ifCond .eq 33, 3) := by decide +kernel
theorem dX0_recallBoats_10 : decode cX0_recallBoats 10 = .ok (.aload_n 0, 1) := by decide +kernel
theorem dX0_recallBoats_11 : decode cX0_recallBoats 11 = .ok (.getfield 9, 3) := by decide +kernel
theorem dX0_recallBoats_14 : decode cX0_recallBoats 14 = .ok (.invokevirtual 68, 3) := by decide +kernel
theorem dX0_recallBoats_17 : decode cX0_recallBoats 17 = .ok (.ifCond .eq 23, 3) := by decide +kernel
theorem dX0_recallBoats_20 : decode cX0_recallBoats 20 = .ok (.aload_n 0, 1) := by decide +kernel
theorem dX0_recallBoats_21 : decode cX0_recallBoats 21 = .ok (.getfield 9, 3) := by decide +kernel
theorem dX0_recallBoats_24 : decode cX0_recallBoats 24 = .ok (.getfield 52, 3) := by decide +kernel
theorem dX0_recallBoats_27 : decode cX0_recallBoats 27 = .ok (.aload_n 0, 1) := by decide +kernel
theorem dX0_recallBoats_28 : decode cX0_recallBoats 28 = .ok (.getfield 9, 3) := by decide +kernel
theorem dX0_recallBoats_31 : decode cX0_recallBoats 31 = .ok (.invokevirtual 74, 3) := by decide +kernel
theorem dX0_recallBoats_34 : decode cX0_recallBoats 34 = .ok (.bipush 60, 2) := by decide +kernel
theorem dX0_recallBoats_36 : decode cX0_recallBoats 36 = .ok (.iadd, 1) := by decide +kernel
theorem dX0_recallBoats_37 : decode cX0_recallBoats 37 = .ok (.if_icmp .le 6, 3) := by decide +kernel
theorem dX0_recallBoats_40 : decode cX0_recallBoats 40 = .ok (.bipush (-4), 2) := by decide +kernel
theorem dX0_recallBoats_42 : decode cX0_recallBoats 42 = .ok (.ireturn, 1) := by decide +kernel
theorem dX0_recallBoats_43 : decode cX0_recallBoats 43 = .ok (.aload_n 0, 1) := by decide +kernel
theorem dX0_recallBoats_44 : decode cX0_recallBoats 44 = .ok (.sipush 300, 3) := by decide +kernel
theorem dX0_recallBoats_47 : decode cX0_recallBoats 47 = .ok (.invokevirtual 44, 3) := by decide +kernel
theorem dX0_recallBoats_50 : decode cX0_recallBoats 50 = .ok (.aload_n 0, 1) := by decide +kernel
theorem dX0_recallBoats_51 : decode cX0_recallBoats 51 = .ok (.getfield 9, 3) := by decide +kernel
theorem dX0_recallBoats_54 : decode cX0_recallBoats 54 = .ok (.invokevirtual 74, 3) := by decide +kernel
theorem dX0_recallBoats_57 : decode cX0_recallBoats 57 = .ok (.ireturn, 1) := by decide +kernel
theorem dX0_passTime_0 : decode cX0_passTime 0 = .ok (.iload_n 1, 1) := by decide +kernel
theorem dX0_passTime_1 : decode cX0_passTime 1 = .ok (.iconst 1, 1) := by decide +kernel
theorem dX0_passTime_2 : decode cX0_passTime 2 = .ok (.if_icmp .lt 10, 3) := by decide +kernel
theorem dX0_passTime_5 : decode cX0_passTime 5 = .ok (.iload_n 1, 1) := by decide +kernel
theorem dX0_passTime_6 : decode cX0_passTime 6 = .ok (.sipush 9999, 3) := by decide +kernel
theorem dX0_passTime_9 : decode cX0_passTime 9 = .ok (.if_icmp .le 6, 3) := by decide +kernel
theorem dX0_passTime_12 : decode cX0_passTime 12 = .ok (.bipush (-2), 2) := by decide +kernel
theorem dX0_passTime_14 : decode cX0_passTime 14 = .ok (.ireturn, 1) := by decide +kernel
theorem dX0_passTime_15 : decode cX0_passTime 15 = .ok (.aload_n 0, 1) := by decide +kernel
theorem dX0_passTime_16 : decode cX0_passTime 16 = .ok (.getfield 9, 3) := by decide +kernel
theorem dX0_passTime_19 : decode cX0_passTime 19 = .ok (.getfield 52, 3) := by decide +kernel
theorem dX0_passTime_22 : decode cX0_passTime 22 = .ok (.iload_n 1, 1) := by decide +kernel
theorem dX0_passTime_23 : decode cX0_passTime 23 = .ok (.iadd, 1) := by decide +kernel
theorem dX0_passTime_24 : decode cX0_passTime 24 = .ok (.ldc 77, 2) := by decide +kernel
theorem dX0_passTime_26 : decode cX0_passTime 26 = .ok (.if_icmp .le 6, 3) := by decide +kernel
theorem dX0_passTime_29 : decode cX0_passTime 29 = .ok (.bipush (-3), 2) := by decide +kernel
theorem dX0_passTime_31 : decode cX0_passTime 31 = .ok (.ireturn, 1) := by decide +kernel
theorem dX0_passTime_32 : decode cX0_passTime 32 = .ok (.aload_n 0, 1) := by decide +kernel
theorem dX0_passTime_33 : decode cX0_passTime 33 = .ok (.getfield 9, 3) := by decide +kernel
theorem dX0_passTime_36 : decode cX0_passTime 36 = .ok (.dup, 1) := by decide +kernel
theorem dX0_passTime_37 : decode cX0_passTime 37 = .ok (.getfield 52, 3) := by decide +kernel
theorem dX0_passTime_40 : decode cX0_passTime 40 = .ok (.iload_n 1, 1) := by decide +kernel
theorem dX0_passTime_41 : decode cX0_passTime 41 = .ok (.iadd, 1) := by decide +kernel
theorem dX0_passTime_42 : decode cX0_passTime 42 = .ok (.putfield 52, 3) := by decide +kernel
theorem dX0_passTime_45 : decode cX0_passTime 45 = .ok (.aload_n 0, 1) := by decide +kernel
theorem dX0_passTime_46 : decode cX0_passTime 46 = .ok (.getfield 9, 3) := by decide +kernel
theorem dX0_passTime_49 : decode cX0_passTime 49 = .ok (.getfield 52, 3) := by decide +kernel
theorem dX0_passTime_52 : decode cX0_passTime 52 = .ok (.ireturn, 1) := by decide +kernel
theorem dX0_crossLine_0 : decode cX0_crossLine 0 = .ok (.aload_n 0, 1) := by decide +kernel
theorem dX0_crossLine_1 : decode cX0_crossLine 1 = .ok (.getfield 9, 3) := by decide +kernel
theorem dX0_crossLine_4 : decode cX0_crossLine 4 = .ok (.iload_n 1, 1) := by decide +kernel
theorem dX0_crossLine_5 : decode cX0_crossLine 5 = .ok (.invokevirtual 78, 3) := by decide +kernel
theorem dX0_crossLine_8 : decode cX0_crossLine 8 = .ok (.ifCond .ne 5, 3) := by decide +kernel
theorem dX0_crossLine_11 : decode cX0_crossLine 11 = .ok (.iconst (-1), 1) := by decide +kernel
theorem dX0_crossLine_12 : decode cX0_crossLine 12 = .ok (.ireturn, 1) := by decide +kernel
theorem dX0_crossLine_13 : decode cX0_crossLine 13 = .ok (.aload_n 0, 1) := by decide +kernel
theorem dX0_crossLine_14 : decode cX0_crossLine 14 = .ok (.getfield 9, 3) := by decide +kernel
theorem dX0_crossLine_17 : decode cX0_crossLine 17 = .ok (.invokevirtual 34, 3) := by decide +kernel
theorem dX0_crossLine_20 : decode cX0_crossLine 20 = .ok (.ifCond .ne 6, 3) := by decide +kernel
theorem dX0_crossLine_23 : decode cX0_crossLine 23 = .ok (.bipush (-4), 2) := by decide +kernel
theorem dX0_crossLine_25 : decode cX0_crossLine 25 = .ok (.ireturn, 1) := by decide +kernel
theorem dX0_crossLine_26 : decode cX0_crossLine 26 = .ok (.aload_n 0, 1) := by decide +kernel
theorem dX0_crossLine_27 : decode cX0_crossLine 27 = .ok (.iload_n 1, 1) := by decide +kernel
theorem dX0_crossLine_28 : decode cX0_crossLine 28 = .ok (.invokevirtual 82, 3) := by decide +kernel
theorem dX0_crossLine_31 : decode cX0_crossLine 31 = .ok (.istore_n 2, 1) := by decide +kernel
theorem dX0_crossLine_32 : decode cX0_crossLine 32 = .ok (.iload_n 2, 1) := by decide +kernel
theorem dX0_crossLine_33 : decode cX0_crossLine 33 = .ok (.bipush (-4), 2) := by decide +kernel
theorem dX0_crossLine_35 : decode cX0_crossLine 35 = .ok (.if_icmp .ne 6, 3) := by decide +kernel
theorem dX0_crossLine_38 : decode cX0_crossLine 38 = .ok (.bipush (-4), 2) := by decide +kernel
theorem dX0_crossLine_40 : decode cX0_crossLine 40 = .ok (.ireturn, 1) := by decide +kernel
theorem dX0_crossLine_41 : decode cX0_crossLine 41 = .ok (.iload_n 2, 1) := by decide +kernel
theorem dX0_crossLine_42 : decode cX0_crossLine 42 = .ok (.iconst 3, 1) := by decide +kernel
theorem dX0_crossLine_43 : decode cX0_crossLine 43 = .ok (.if_icmp .ne 19, 3) := by decide +kernel
theorem dX0_crossLine_46 : decode cX0_crossLine 46 = .ok (.aload_n 0, 1) := by decide +kernel
theorem dX0_crossLine_47 : decode cX0_crossLine 47 = .ok (.getfield 9, 3) := by decide +kernel
theorem dX0_crossLine_50 : decode cX0_crossLine 50 = .ok (.iload_n 1, 1) := by decide +kernel
theorem dX0_crossLine_51 : decode cX0_crossLine 51 = .ok (.iconst 5, 1) := by decide +kernel
theorem dX0_crossLine_52 : decode cX0_crossLine 52 = .ok (.aload_n 0, 1) := by decide +kernel
theorem dX0_crossLine_53 : decode cX0_crossLine 53 = .ok (.getfield 9, 3) := by decide +kernel
theorem dX0_crossLine_56 : decode cX0_crossLine 56 = .ok (.getfield 52, 3) := by decide +kernel
theorem dX0_crossLine_59 : decode cX0_crossLine 59 = .ok (.invokevirtual 86, 3) := by decide +kernel
theorem dX0_crossLine_62 : decode cX0_crossLine 62 = .ok (.aload_n 0, 1) := by decide +kernel
theorem dX0_crossLine_63 : decode cX0_crossLine 63 = .ok (.getfield 9, 3) := by decide +kernel
theorem dX0_crossLine_66 : decode cX0_crossLine 66 = .ok (.iload_n 1, 1) := by decide +kernel
theorem dX0_crossLine_67 : decode cX0_crossLine 67 = .ok (.iconst 0, 1) := by decide +kernel
theorem dX0_crossLine_68 : decode cX0_crossLine 68 = .ok (.iload_n 2, 1) := by decide +kernel
theorem dX0_crossLine_69 : decode cX0_crossLine 69 = .ok (.invokevirtual 86, 3) := by decide +kernel
theorem dX0_crossLine_72 : decode cX0_crossLine 72 = .ok (.iload_n 2, 1) := by decide +kernel
theorem dX0_crossLine_73 : decode cX0_crossLine 73 = .ok (.ireturn, 1) := by decide +kernel
theorem dX0_kindAfterLine_0 : decode cX0_kindAfterLine 0 = .ok (.aload_n 0, 1) := by decide +kernel
theorem dX0_kindAfterLine_1 : decode cX0_kindAfterLine 1 = .ok (.getfield 9, 3) := by decide +kernel
theorem dX0_kindAfterLine_4 : decode cX0_kindAfterLine 4 = .ok (.iload_n 1, 1) := by decide +kernel
theorem dX0_kindAfterLine_5 : decode cX0_kindAfterLine 5 = .ok (.iconst 0, 1) := by decide +kernel
theorem dX0_kindAfterLine_6 : decode cX0_kindAfterLine 6 = .ok (.invokevirtual 89, 3) := by decide +kernel
theorem dX0_kindAfterLine_9 : decode cX0_kindAfterLine 9 = .ok (.tableswitch 74 0 2 #[27, 43, 59], 27) := by decide +kernel
theorem dX0_kindAfterLine_36 : decode cX0_kindAfterLine 36 = .ok (.aload_n 0, 1) := by decide +kernel
theorem dX0_kindAfterLine_37 : decode cX0_kindAfterLine 37 = .ok (.getfield 9, 3) := by decide +kernel
theorem dX0_kindAfterLine_40 : decode cX0_kindAfterLine 40 = .ok (.invokevirtual 68, 3) := by decide +kernel
theorem dX0_kindAfterLine_43 : decode cX0_kindAfterLine 43 = .ok (.ifCond .eq 7, 3) := by decide +kernel
theorem dX0_kindAfterLine_46 : decode cX0_kindAfterLine 46 = .ok (.iconst 2, 1) := by decide +kernel
theorem dX0_kindAfterLine_47 : decode cX0_kindAfterLine 47 = .ok (.goto 4, 3) := by decide +kernel
theorem dX0_kindAfterLine_50 : decode cX0_kindAfterLine 50 = .ok (.iconst 1, 1) := by decide +kernel
theorem dX0_kindAfterLine_51 : decode cX0_kindAfterLine 51 = .ok (.ireturn, 1) := by decide +kernel
theorem dX0_kindAfterLine_52 : decode cX0_kindAfterLine 52 = .ok (.aload_n 0, 1) := by decide +kernel
theorem dX0_kindAfterLine_53 : decode cX0_kindAfterLine 53 = .ok (.getfield 9, 3) := by decide +kernel
theorem dX0_kindAfterLine_56 : decode cX0_kindAfterLine 56 = .ok (.invokevirtual 68, 3) := by decide +kernel
theorem dX0_kindAfterLine_59 : decode cX0_kindAfterLine 59 = .ok (.ifCond .eq 7, 3) := by decide +kernel
theorem dX0_kindAfterLine_62 : decode cX0_kindAfterLine 62 = .ok (.iconst 2, 1) := by decide +kernel
theorem dX0_kindAfterLine_63 : decode cX0_kindAfterLine 63 = .ok (.goto 4, 3) := by decide +kernel
theorem dX0_kindAfterLine_66 : decode cX0_kindAfterLine 66 = .ok (.iconst 0, 1) := by decide +kernel
theorem dX0_kindAfterLine_67 : decode cX0_kindAfterLine 67 = .ok (.ireturn, 1) := by decide +kernel
theorem dX0_kindAfterLine_68 : decode cX0_kindAfterLine 68 = .ok (.aload_n 0, 1) := by decide +kernel
theorem dX0_kindAfterLine_69 : decode cX0_kindAfterLine 69 = .ok (.iload_n 1, 1) := by decide +kernel
theorem dX0_kindAfterLine_70 : decode cX0_kindAfterLine 70 = .ok (.invokevirtual 92, 3) := by decide +kernel
theorem dX0_kindAfterLine_73 : decode cX0_kindAfterLine 73 = .ok (.ifCond .eq 7, 3) := by decide +kernel
theorem dX0_kindAfterLine_76 : decode cX0_kindAfterLine 76 = .ok (.iconst 3, 1) := by decide +kernel
theorem dX0_kindAfterLine_77 : decode cX0_kindAfterLine 77 = .ok (.goto 5, 3) := by decide +kernel
theorem dX0_kindAfterLine_80 : decode cX0_kindAfterLine 80 = .ok (.bipush (-4), 2) := by decide +kernel
theorem dX0_kindAfterLine_82 : decode cX0_kindAfterLine 82 = .ok (.ireturn, 1) := by decide +kernel
theorem dX0_kindAfterLine_83 : decode cX0_kindAfterLine 83 = .ok (.bipush (-4), 2) := by decide +kernel
theorem dX0_kindAfterLine_85 : decode cX0_kindAfterLine 85 = .ok (.ireturn, 1) := by decide +kernel
theorem dX0_hasAllRoundings_0 : decode cX0_hasAllRoundings 0 = .ok (.aload_n 0, 1) := by decide +kernel
theorem dX0_hasAllRoundings_1 : decode cX0_hasAllRoundings 1 = .ok (.getfield 9, 3) := by decide +kernel
theorem dX0_hasAllRoundings_4 : decode cX0_hasAllRoundings 4 = .ok (.invokevirtual 48, 3) := by decide +kernel
theorem dX0_hasAllRoundings_7 : decode cX0_hasAllRoundings 7 = .ok (.istore_n 2, 1) := by decide +kernel
theorem dX0_hasAllRoundings_8 : decode cX0_hasAllRoundings 8 = .ok (.aload_n 0, 1) := by decide +kernel
theorem dX0_hasAllRoundings_9 : decode cX0_hasAllRoundings 9 = .ok (.getfield 9, 3) := by decide +kernel
theorem dX0_hasAllRoundings_12 : decode cX0_hasAllRoundings 12 = .ok (.getfield 38, 3) := by decide +kernel
theorem dX0_hasAllRoundings_15 : decode cX0_hasAllRoundings 15 = .ok (.iload_n 2, 1) := by decide +kernel
theorem dX0_hasAllRoundings_16 : decode cX0_hasAllRoundings 16 = .ok (.iconst 0, 1) := by decide +kernel
theorem dX0_hasAllRoundings_17 : decode cX0_hasAllRoundings 17 = .ok (.invokevirtual 95, 3) := by decide +kernel
theorem dX0_hasAllRoundings_20 : decode cX0_hasAllRoundings 20 = .ok (.aload_n 0, 1) := by decide +kernel
theorem dX0_hasAllRoundings_21 : decode cX0_hasAllRoundings 21 = .ok (.getfield 9, 3) := by decide +kernel
theorem dX0_hasAllRoundings_24 : decode cX0_hasAllRoundings 24 = .ok (.getfield 38, 3) := by decide +kernel
theorem dX0_hasAllRoundings_27 : decode cX0_hasAllRoundings 27 = .ok (.iload_n 2, 1) := by decide +kernel
theorem dX0_hasAllRoundings_28 : decode cX0_hasAllRoundings 28 = .ok (.iconst 1, 1) := by decide +kernel
theorem dX0_hasAllRoundings_29 : decode cX0_hasAllRoundings 29 = .ok (.invokevirtual 95, 3) := by decide +kernel
theorem dX0_hasAllRoundings_32 : decode cX0_hasAllRoundings 32 = .ok (.imul, 1) := by decide +kernel
theorem dX0_hasAllRoundings_33 : decode cX0_hasAllRoundings 33 = .ok (.istore_n 3, 1) := by decide +kernel
theorem dX0_hasAllRoundings_34 : decode cX0_hasAllRoundings 34 = .ok (.aload_n 0, 1) := by decide +kernel
theorem dX0_hasAllRoundings_35 : decode cX0_hasAllRoundings 35 = .ok (.getfield 9, 3) := by decide +kernel
theorem dX0_hasAllRoundings_38 : decode cX0_hasAllRoundings 38 = .ok (.iload_n 1, 1) := by decide +kernel
theorem dX0_hasAllRoundings_39 : decode cX0_hasAllRoundings 39 = .ok (.iconst 1, 1) := by decide +kernel
theorem dX0_hasAllRoundings_40 : decode cX0_hasAllRoundings 40 = .ok (.invokevirtual 89, 3) := by decide +kernel
theorem dX0_hasAllRoundings_43 : decode cX0_hasAllRoundings 43 = .ok (.iload_n 3, 1) := by decide +kernel
theorem dX0_hasAllRoundings_44 : decode cX0_hasAllRoundings 44 = .ok (.if_icmp .lt 7, 3) := by decide +kernel
theorem dX0_hasAllRoundings_47 : decode cX0_hasAllRoundings 47 = .ok (.iconst 1, 1) := by decide +kernel
theorem dX0_hasAllRoundings_48 : decode cX0_hasAllRoundings 48 = .ok (.goto 4, 3) := by decide +kernel
theorem dX0_hasAllRoundings_51 : decode cX0_hasAllRoundings 51 = .ok (.iconst 0, 1) := by decide +kernel
theorem dX0_hasAllRoundings_52 : decode cX0_hasAllRoundings 52 = .ok (.ireturn, 1) := by decide +kernel
theorem dX0_passBuoy_0 : decode cX0_passBuoy 0 = .ok (.aload_n 0, 1) := by decide +kernel
theorem dX0_passBuoy_1 : decode cX0_passBuoy 1 = .ok (.getfield 9, 3) := by decide +kernel
theorem dX0_passBuoy_4 : decode cX0_passBuoy 4 = .ok (.iload_n 1, 1) := by decide +kernel
theorem dX0_passBuoy_5 : decode cX0_passBuoy 5 = .ok (.invokevirtual 78, 3) := by decide +kernel
theorem dX0_passBuoy_8 : decode cX0_passBuoy 8 = .ok (.ifCond .ne 5, 3) := by decide +kernel
theorem dX0_passBuoy_11 : decode cX0_passBuoy 11 = .ok (.iconst (-1), 1) := by decide +kernel
theorem dX0_passBuoy_12 : decode cX0_passBuoy 12 = .ok (.ireturn, 1) := by decide +kernel
theorem dX0_passBuoy_13 : decode cX0_passBuoy 13 = .ok (.aload_n 0, 1) := by decide +kernel
theorem dX0_passBuoy_14 : decode cX0_passBuoy 14 = .ok (.getfield 9, 3) := by decide +kernel
theorem dX0_passBuoy_17 : decode cX0_passBuoy 17 = .ok (.getfield 38, 3) := by decide +kernel
theorem dX0_passBuoy_20 : decode cX0_passBuoy 20 = .ok (.aload_n 0, 1) := by decide +kernel
theorem dX0_passBuoy_21 : decode cX0_passBuoy 21 = .ok (.getfield 9, 3) := by decide +kernel
theorem dX0_passBuoy_24 : decode cX0_passBuoy 24 = .ok (.invokevirtual 48, 3) := by decide +kernel
theorem dX0_passBuoy_27 : decode cX0_passBuoy 27 = .ok (.iconst 0, 1) := by decide +kernel
theorem dX0_passBuoy_28 : decode cX0_passBuoy 28 = .ok (.invokevirtual 95, 3) := by decide +kernel
theorem dX0_passBuoy_31 : decode cX0_passBuoy 31 = .ok (.istore_n 3, 1) := by decide +kernel
theorem dX0_passBuoy_32 : decode cX0_passBuoy 32 = .ok (.aload_n 0, 1) := by decide +kernel
theorem dX0_passBuoy_33 : decode cX0_passBuoy 33 = .ok (.getfield 9, 3) := by decide +kernel
theorem dX0_passBuoy_36 : decode cX0_passBuoy 36 = .ok (.invokevirtual 34, 3) := by decide +kernel
theorem dX0_passBuoy_39 : decode cX0_passBuoy 39 = .ok (.ifCond .eq 12, 3) := by decide +kernel
theorem dX0_passBuoy_42 : decode cX0_passBuoy 42 = .ok (.iload_n 2, 1) := by decide +kernel
theorem dX0_passBuoy_43 : decode cX0_passBuoy 43 = .ok (.ifCond .lt 8, 3) := by decide +kernel
theorem dX0_passBuoy_46 : decode cX0_passBuoy 46 = .ok (.iload_n 2, 1) := by decide +kernel
theorem dX0_passBuoy_47 : decode cX0_passBuoy 47 = .ok (.iload_n 3, 1) := by decide +kernel
theorem dX0_passBuoy_48 : decode cX0_passBuoy 48 = .ok (.if_icmp .lt 6, 3) := by decide +kernel
theorem dX0_passBuoy_51 : decode cX0_passBuoy 51 = .ok (.bipush (-2), 2) := by decide +kernel
theorem dX0_passBuoy_53 : decode cX0_passBuoy 53 = .ok (.ireturn, 1) := by decide +kernel
theorem dX0_passBuoy_54 : decode cX0_passBuoy 54 = .ok (.aload_n 0, 1) := by decide +kernel
theorem dX0_passBuoy_55 : decode cX0_passBuoy 55 = .ok (.getfield 9, 3) := by decide +kernel
theorem dX0_passBuoy_58 : decode cX0_passBuoy 58 = .ok (.iload_n 1, 1) := by decide +kernel
theorem dX0_passBuoy_59 : decode cX0_passBuoy 59 = .ok (.iconst 0, 1) := by decide +kernel
theorem dX0_passBuoy_60 : decode cX0_passBuoy 60 = .ok (.invokevirtual 89, 3) := by decide +kernel
theorem dX0_passBuoy_63 : decode cX0_passBuoy 63 = .ok (.iconst 2, 1) := by decide +kernel
theorem dX0_passBuoy_64 : decode cX0_passBuoy 64 = .ok (.if_icmp .eq 6, 3) := by decide +kernel
theorem dX0_passBuoy_67 : decode cX0_passBuoy 67 = .ok (.bipush (-4), 2) := by decide +kernel
theorem dX0_passBuoy_69 : decode cX0_passBuoy 69 = .ok (.ireturn, 1) := by decide +kernel
theorem dX0_passBuoy_70 : decode cX0_passBuoy 70 = .ok (.aload_n 0, 1) := by decide +kernel
theorem dX0_passBuoy_71 : decode cX0_passBuoy 71 = .ok (.getfield 9, 3) := by decide +kernel
theorem dX0_passBuoy_74 : decode cX0_passBuoy 74 = .ok (.iload_n 1, 1) := by decide +kernel
theorem dX0_passBuoy_75 : decode cX0_passBuoy 75 = .ok (.iconst 1, 1) := by decide +kernel
theorem dX0_passBuoy_76 : decode cX0_passBuoy 76 = .ok (.invokevirtual 89, 3) := by decide +kernel
theorem dX0_passBuoy_79 : decode cX0_passBuoy 79 = .ok (.istore 4, 2) := by decide +kernel
theorem dX0_passBuoy_81 : decode cX0_passBuoy 81 = .ok (.iload_n 3, 1) := by decide +kernel
theorem dX0_passBuoy_82 : decode cX0_passBuoy 82 = .ok (.ifCond .le 23, 3) := by decide +kernel
theorem dX0_passBuoy_85 : decode cX0_passBuoy 85 = .ok (.iload_n 2, 1) := by decide +kernel
theorem dX0_passBuoy_86 : decode cX0_passBuoy 86 = .ok (.iload 4, 2) := by decide +kernel
theorem dX0_passBuoy_88 : decode cX0_passBuoy 88 = .ok (.iload_n 3, 1) := by decide +kernel
theorem dX0_passBuoy_89 : decode cX0_passBuoy 89 = .ok (.irem, 1) := by decide +kernel
theorem dX0_passBuoy_90 : decode cX0_passBuoy 90 = .ok (.if_icmp .ne 15, 3) := by decide +kernel
theorem dX0_passBuoy_93 : decode cX0_passBuoy 93 = .ok (.aload_n 0, 1) := by decide +kernel
theorem dX0_passBuoy_94 : decode cX0_passBuoy 94 = .ok (.iload_n 1, 1) := by decide +kernel
theorem dX0_passBuoy_95 : decode cX0_passBuoy 95 = .ok (.invokevirtual 92, 3) := by decide +kernel
theorem dX0_passBuoy_98 : decode cX0_passBuoy 98 = .ok (.ifCond .ne 7, 3) := by decide +kernel
theorem dX0_passBuoy_101 : decode cX0_passBuoy 101 = .ok (.iconst 1, 1) := by decide +kernel
theorem dX0_passBuoy_102 : decode cX0_passBuoy 102 = .ok (.goto 4, 3) := by decide +kernel
theorem dX0_passBuoy_105 : decode cX0_passBuoy 105 = .ok (.iconst 0, 1) := by decide +kernel
theorem dX0_passBuoy_106 : decode cX0_passBuoy 106 = .ok (.istore 5, 2) := by decide +kernel
theorem dX0_passBuoy_108 : decode cX0_passBuoy 108 = .ok (.iload 5, 2) := by decide +kernel
theorem dX0_passBuoy_110 : decode cX0_passBuoy 110 = .ok (.ifCond .eq 7, 3) := by decide +kernel
theorem dX0_passBuoy_113 : decode cX0_passBuoy 113 = .ok (.iconst 1, 1) := by decide +kernel
theorem dX0_passBuoy_114 : decode cX0_passBuoy 114 = .ok (.goto 4, 3) := by decide +kernel
theorem dX0_passBuoy_117 : decode cX0_passBuoy 117 = .ok (.iconst 2, 1) := by decide +kernel
theorem dX0_passBuoy_118 : decode cX0_passBuoy 118 = .ok (.istore 6, 2) := by decide +kernel
theorem dX0_passBuoy_120 : decode cX0_passBuoy 120 = .ok (.aload_n 0, 1) := by decide +kernel
theorem dX0_passBuoy_121 : decode cX0_passBuoy 121 = .ok (.getfield 9, 3) := by decide +kernel
theorem dX0_passBuoy_124 : decode cX0_passBuoy 124 = .ok (.iload_n 1, 1) := by decide +kernel
theorem dX0_passBuoy_125 : decode cX0_passBuoy 125 = .ok (.iload 6, 2) := by decide +kernel
theorem dX0_passBuoy_127 : decode cX0_passBuoy 127 = .ok (.aload_n 0, 1) := by decide +kernel
theorem dX0_passBuoy_128 : decode cX0_passBuoy 128 = .ok (.getfield 9, 3) := by decide +kernel
theorem dX0_passBuoy_131 : decode cX0_passBuoy 131 = .ok (.iload_n 1, 1) := by decide +kernel
theorem dX0_passBuoy_132 : decode cX0_passBuoy 132 = .ok (.iload 6, 2) := by decide +kernel
theorem dX0_passBuoy_134 : decode cX0_passBuoy 134 = .ok (.invokevirtual 89, 3) := by decide +kernel
theorem dX0_passBuoy_137 : decode cX0_passBuoy 137 = .ok (.iconst 1, 1) := by decide +kernel
theorem dX0_passBuoy_138 : decode cX0_passBuoy 138 = .ok (.iadd, 1) := by decide +kernel
theorem dX0_passBuoy_139 : decode cX0_passBuoy 139 = .ok (.invokevirtual 86, 3) := by decide +kernel
theorem dX0_passBuoy_142 : decode cX0_passBuoy 142 = .ok (.aload_n 0, 1) := by decide +kernel
theorem dX0_passBuoy_143 : decode cX0_passBuoy 143 = .ok (.getfield 9, 3) := by decide +kernel
theorem dX0_passBuoy_146 : decode cX0_passBuoy 146 = .ok (.iload_n 1, 1) := by decide +kernel
theorem dX0_passBuoy_147 : decode cX0_passBuoy 147 = .ok (.iconst 1, 1) := by decide +kernel
theorem dX0_passBuoy_148 : decode cX0_passBuoy 148 = .ok (.invokevirtual 89, 3) := by decide +kernel
theorem dX0_passBuoy_151 : decode cX0_passBuoy 151 = .ok (.ireturn, 1) := by decide +kernel
theorem dX0_retireBoat_0 : decode cX0_retireBoat 0 = .ok (.aload_n 0, 1) := by decide +kernel
theorem dX0_retireBoat_1 : decode cX0_retireBoat 1 = .ok (.getfield 9, 3) := by decide +kernel
theorem dX0_retireBoat_4 : decode cX0_retireBoat 4 = .ok (.iload_n 1, 1) := by decide +kernel
theorem dX0_retireBoat_5 : decode cX0_retireBoat 5 = .ok (.invokevirtual 78, 3) := by decide +kernel
theorem dX0_retireBoat_8 : decode cX0_retireBoat 8 = .ok (.ifCond .ne 5, 3) := by decide +kernel
theorem dX0_retireBoat_11 : decode cX0_retireBoat 11 = .ok (.iconst (-1), 1) := by decide +kernel
theorem dX0_retireBoat_12 : decode cX0_retireBoat 12 = .ok (.ireturn, 1) := by decide +kernel
theorem dX0_retireBoat_13 : decode cX0_retireBoat 13 = .ok (.aload_n 0, 1) := by decide +kernel
theorem dX0_retireBoat_14 : decode cX0_retireBoat 14 = .ok (.getfield 9, 3) := by decide +kernel
theorem dX0_retireBoat_17 : decode cX0_retireBoat 17 = .ok (.iload_n 1, 1) := by decide +kernel
theorem dX0_retireBoat_18 : decode cX0_retireBoat 18 = .ok (.iconst 0, 1) := by decide +kernel
theorem dX0_retireBoat_19 : decode cX0_retireBoat 19 = .ok (.invokevirtual 89, 3) := by decide +kernel
theorem dX0_retireBoat_22 : decode cX0_retireBoat 22 = .ok (.istore_n 2, 1) := by decide +kernel
theorem dX0_retireBoat_23 : decode cX0_retireBoat 23 = .ok (.aload_n 0, 1) := by decide +kernel
theorem dX0_retireBoat_24 : decode cX0_retireBoat 24 = .ok (.getfield 9, 3) := by decide +kernel
theorem dX0_retireBoat_27 : decode cX0_retireBoat 27 = .ok (.invokevirtual 34, 3) := by decide +kernel
theorem dX0_retireBoat_30 : decode cX0_retireBoat 30 = .ok (.ifCond .eq 13, 3) := by decide +kernel
theorem dX0_retireBoat_33 : decode cX0_retireBoat 33 = .ok (.iload_n 2, 1) := by decide +kernel
theorem dX0_retireBoat_34 : decode cX0_retireBoat 34 = .ok (.iconst 3, 1) := by decide +kernel
theorem dX0_retireBoat_35 : decode cX0_retireBoat 35 = .ok (.if_icmp .eq 8, 3) := by decide +kernel
theorem dX0_retireBoat_38 : decode cX0_retireBoat 38 = .ok (.iload_n 2, 1) := by decide +kernel
theorem dX0_retireBoat_39 : decode cX0_retireBoat 39 = .ok (.iconst 4, 1) := by decide +kernel
theorem dX0_retireBoat_40 : decode cX0_retireBoat 40 = .ok (.if_icmp .ne 6, 3) := by decide +kernel
theorem dX0_retireBoat_43 : decode cX0_retireBoat 43 = .ok (.bipush (-4), 2) := by decide +kernel
theorem dX0_retireBoat_45 : decode cX0_retireBoat 45 = .ok (.ireturn, 1) := by decide +kernel
theorem dX0_retireBoat_46 : decode cX0_retireBoat 46 = .ok (.aload_n 0, 1) := by decide +kernel
theorem dX0_retireBoat_47 : decode cX0_retireBoat 47 = .ok (.getfield 9, 3) := by decide +kernel
theorem dX0_retireBoat_50 : decode cX0_retireBoat 50 = .ok (.iload_n 1, 1) := by decide +kernel
theorem dX0_retireBoat_51 : decode cX0_retireBoat 51 = .ok (.iconst 0, 1) := by decide +kernel
theorem dX0_retireBoat_52 : decode cX0_retireBoat 52 = .ok (.iconst 4, 1) := by decide +kernel
theorem dX0_retireBoat_53 : decode cX0_retireBoat 53 = .ok (.invokevirtual 86, 3) := by decide +kernel
theorem dX0_retireBoat_56 : decode cX0_retireBoat 56 = .ok (.iload_n 2, 1) := by decide +kernel
theorem dX0_retireBoat_57 : decode cX0_retireBoat 57 = .ok (.ireturn, 1) := by decide +kernel
theorem dX0_closeRace_0 : decode cX0_closeRace 0 = .ok (.aload_n 0, 1) := by decide +kernel
theorem dX0_closeRace_1 : decode cX0_closeRace 1 = .ok (.getfield 9, 3) := by decide +kernel
theorem dX0_closeRace_4 : decode cX0_closeRace 4 = .ok (.invokevirtual 34, 3) := by decide +kernel
theorem dX0_closeRace_7 : decode cX0_closeRace 7 = .ok (.ifCond .eq 13, 3) := by decide +kernel
theorem dX0_closeRace_10 : decode cX0_closeRace 10 = .ok (.aload_n 0, 1) := by decide +kernel
theorem dX0_closeRace_11 : decode cX0_closeRace 11 = .ok (.getfield 9, 3) := by decide +kernel
theorem dX0_closeRace_14 : decode cX0_closeRace 14 = .ok (.invokevirtual 68, 3) := by decide +kernel
theorem dX0_closeRace_17 : decode cX0_closeRace 17 = .ok (.ifCond .ne 6, 3) := by decide +kernel
theorem dX0_closeRace_20 : decode cX0_closeRace 20 = .ok (.bipush (-4), 2) := by decide +kernel
theorem dX0_closeRace_22 : decode cX0_closeRace 22 = .ok (.ireturn, 1) := by decide +kernel
theorem dX0_closeRace_23 : decode cX0_closeRace 23 = .ok (.aload_n 0, 1) := by decide +kernel
theorem dX0_closeRace_24 : decode cX0_closeRace 24 = .ok (.getfield 9, 3) := by decide +kernel
theorem dX0_closeRace_27 : decode cX0_closeRace 27 = .ok (.iconst 2, 1) := by decide +kernel
theorem dX0_closeRace_28 : decode cX0_closeRace 28 = .ok (.putfield 41, 3) := by decide +kernel
theorem dX0_closeRace_31 : decode cX0_closeRace 31 = .ok (.aload_n 0, 1) := by decide +kernel
theorem dX0_closeRace_32 : decode cX0_closeRace 32 = .ok (.getfield 9, 3) := by decide +kernel
theorem dX0_closeRace_35 : decode cX0_closeRace 35 = .ok (.aload_n 0, 1) := by decide +kernel
theorem dX0_closeRace_36 : decode cX0_closeRace 36 = .ok (.getfield 9, 3) := by decide +kernel
theorem dX0_closeRace_39 : decode cX0_closeRace 39 = .ok (.invokevirtual 48, 3) := by decide +kernel
theorem dX0_closeRace_42 : decode cX0_closeRace 42 = .ok (.iconst 0, 1) := by decide +kernel
theorem dX0_closeRace_43 : decode cX0_closeRace 43 = .ok (.iconst 3, 1) := by decide +kernel
theorem dX0_closeRace_44 : decode cX0_closeRace 44 = .ok (.invokevirtual 98, 3) := by decide +kernel
theorem dX0_closeRace_47 : decode cX0_closeRace 47 = .ok (.ireturn, 1) := by decide +kernel
theorem dX0_changeSetting_0 : decode cX0_changeSetting 0 = .ok (.iload_n 1, 1) := by decide +kernel
theorem dX0_changeSetting_1 : decode cX0_changeSetting 1 = .ok (.ifCond .lt 8, 3) := by decide +kernel
theorem dX0_changeSetting_4 : decode cX0_changeSetting 4 = .ok (.iload_n 1, 1) := by decide +kernel
theorem dX0_changeSetting_5 : decode cX0_changeSetting 5 = .ok (.iconst 3, 1) := by decide +kernel
theorem dX0_changeSetting_6 : decode cX0_changeSetting 6 = .ok (.if_icmp .lt 5, 3) := by decide +kernel
theorem dX0_changeSetting_9 : decode cX0_changeSetting 9 = .ok (.iconst (-1), 1) := by decide +kernel
theorem dX0_changeSetting_10 : decode cX0_changeSetting 10 = .ok (.ireturn, 1) := by decide +kernel
theorem dX0_changeSetting_11 : decode cX0_changeSetting 11 = .ok (.iload_n 2, 1) := by decide +kernel
theorem dX0_changeSetting_12 : decode cX0_changeSetting 12 = .ok (.getstatic 102, 3) := by decide +kernel
theorem dX0_changeSetting_15 : decode cX0_changeSetting 15 = .ok (.iload_n 1, 1) := by decide +kernel
theorem dX0_changeSetting_16 : decode cX0_changeSetting 16 = .ok (.iaload, 1) := by decide +kernel
theorem dX0_changeSetting_17 : decode cX0_changeSetting 17 = .ok (.if_icmp .lt 12, 3) := by decide +kernel
theorem dX0_changeSetting_20 : decode cX0_changeSetting 20 = .ok (.iload_n 2, 1) := by decide +kernel
theorem dX0_changeSetting_21 : decode cX0_changeSetting 21 = .ok (.getstatic 106, 3) := by decide +kernel
theorem dX0_changeSetting_24 : decode cX0_changeSetting 24 = .ok (.iload_n 1, 1) := by decide +kernel
theorem dX0_changeSetting_25 : decode cX0_changeSetting 25 = .ok (.iaload, 1) := by decide +kernel
theorem dX0_changeSetting_26 : decode cX0_changeSetting 26 = .ok (.if_icmp .le 6, 3) := by decide +kernel
theorem dX0_changeSetting_29 : decode cX0_changeSetting 29 = .ok (.bipush (-2), 2) := by decide +kernel
theorem dX0_changeSetting_31 : decode cX0_changeSetting 31 = .ok (.ireturn, 1) := by decide +kernel
theorem dX0_changeSetting_32 : decode cX0_changeSetting 32 = .ok (.aload_n 0, 1) := by decide +kernel
theorem dX0_changeSetting_33 : decode cX0_changeSetting 33 = .ok (.getfield 9, 3) := by decide +kernel
theorem dX0_changeSetting_36 : decode cX0_changeSetting 36 = .ok (.iload_n 1, 1) := by decide +kernel
theorem dX0_changeSetting_37 : decode cX0_changeSetting 37 = .ok (.invokevirtual 109, 3) := by decide +kernel
theorem dX0_changeSetting_40 : decode cX0_changeSetting 40 = .ok (.istore_n 3, 1) := by decide +kernel
theorem dX0_changeSetting_41 : decode cX0_changeSetting 41 = .ok (.aload_n 0, 1) := by decide +kernel
theorem dX0_changeSetting_42 : decode cX0_changeSetting 42 = .ok (.getfield 9, 3) := by decide +kernel
theorem dX0_changeSetting_45 : decode cX0_changeSetting 45 = .ok (.getfield 112, 3) := by decide +kernel
theorem dX0_changeSetting_48 : decode cX0_changeSetting 48 = .ok (.iload_n 1, 1) := by decide +kernel
theorem dX0_changeSetting_49 : decode cX0_changeSetting 49 = .ok (.iconst 0, 1) := by decide +kernel
theorem dX0_changeSetting_50 : decode cX0_changeSetting 50 = .ok (.iload_n 2, 1) := by decide +kernel
theorem dX0_changeSetting_51 : decode cX0_changeSetting 51 = .ok (.invokevirtual 28, 3) := by decide +kernel
theorem dX0_changeSetting_54 : decode cX0_changeSetting 54 = .ok (.iload_n 3, 1) := by decide +kernel
theorem dX0_changeSetting_55 : decode cX0_changeSetting 55 = .ok (.ireturn, 1) := by decide +kernel
theorem dX1_init_0 : decode cX1_init 0 = .ok (.aload_n 0, 1) := by decide +kernel
theorem dX1_init_1 : decode cX1_init 1 = .ok (.invokespecial 3, 3) := by decide +kernel
theorem dX1_init_4 : decode cX1_init 4 = .ok (.aload_n 0, 1) := by decide +kernel
theorem dX1_init_5 : decode cX1_init 5 = .ok (.iconst 5, 1) := by decide +kernel
theorem dX1_init_6 : decode cX1_init 6 = .ok (.anewarray 11, 3) := by decide +kernel
theorem dX1_init_9 : decode cX1_init 9 = .ok (.putfield 13, 3) := by decide +kernel
theorem dX1_init_12 : decode cX1_init 12 = .ok (.iconst 0, 1) := by decide +kernel
theorem dX1_init_13 : decode cX1_init 13 = .ok (.istore_n 1, 1) := by decide +kernel
theorem dX1_init_14 : decode cX1_init 14 = .ok (.iload_n 1, 1) := by decide +kernel
theorem dX1_init_15 : decode cX1_init 15 = .ok (.iconst 5, 1) := by decide +kernel
theorem dX1_init_16 : decode cX1_init 16 = .ok (.if_icmp .ge 22, 3) := by decide +kernel
theorem dX1_init_19 : decode cX1_init 19 = .ok (.aload_n 0, 1) := by decide +kernel
theorem dX1_init_20 : decode cX1_init 20 = .ok (.getfield 13, 3) := by decide +kernel
theorem dX1_init_23 : decode cX1_init 23 = .ok (.iload_n 1, 1) := by decide +kernel
theorem dX1_init_24 : decode cX1_init 24 = .ok (.new 11, 3) := by decide +kernel
theorem dX1_init_27 : decode cX1_init 27 = .ok (.dup, 1) := by decide +kernel
theorem dX1_init_28 : decode cX1_init 28 = .ok (.invokespecial 17, 3) := by decide +kernel
theorem dX1_init_31 : decode cX1_init 31 = .ok (.aastore, 1) := by decide +kernel
theorem dX1_init_32 : decode cX1_init 32 = .ok (.iinc 1 1, 3) := by decide +kernel
theorem dX1_init_35 : decode cX1_init 35 = .ok (.goto (-21), 3) := by decide +kernel
theorem dX1_init_38 : decode cX1_init 38 = .ok (.return_, 1) := by decide +kernel
theorem dX1_size_0 : decode cX1_size 0 = .ok (.aload_n 0, 1) := by decide +kernel
theorem dX1_size_1 : decode cX1_size 1 = .ok (.getfield 18, 3) := by decide +kernel
theorem dX1_size_4 : decode cX1_size 4 = .ok (.ireturn, 1) := by decide +kernel
theorem dX1_hold_0 : decode cX1_hold 0 = .ok (.aload_n 0, 1) := by decide +kernel
theorem dX1_hold_1 : decode cX1_hold 1 = .ok (.aload_n 0, 1) := by decide +kernel
theorem dX1_hold_2 : decode cX1_hold 2 = .ok (.getfield 22, 3) := by decide +kernel
theorem dX1_hold_5 : decode cX1_hold 5 = .ok (.invokevirtual 25, 3) := by decide +kernel
theorem dX1_hold_8 : decode cX1_hold 8 = .ok (.astore_n 2, 1) := by decide +kernel
theorem dX1_hold_9 : decode cX1_hold 9 = .ok (.aload_n 2, 1) := by decide +kernel
theorem dX1_hold_10 : decode cX1_hold 10 = .ok (.ifnull 8, 3) := by decide +kernel
theorem dX1_hold_13 : decode cX1_hold 13 = .ok (.aload_n 2, 1) := by decide +kernel
theorem dX1_hold_14 : decode cX1_hold 14 = .ok (.aload_n 1, 1) := by decide +kernel
theorem dX1_hold_15 : decode cX1_hold 15 = .ok (.invokevirtual 29, 3) := by decide +kernel
theorem dX1_hold_18 : decode cX1_hold 18 = .ok (.return_, 1) := by decide +kernel
theorem dX1_slot_0 : decode cX1_slot 0 = .ok (.iload_n 1, 1) := by decide +kernel
theorem dX1_slot_1 : decode cX1_slot 1 = .ok (.ifCond .lt 21, 3) := by decide +kernel
theorem dX1_slot_4 : decode cX1_slot 4 = .ok (.iload_n 1, 1) := by decide +kernel
theorem dX1_slot_5 : decode cX1_slot 5 = .ok (.aload_n 0, 1) := by decide +kernel
theorem dX1_slot_6 : decode cX1_slot 6 = .ok (.getfield 13, 3) := by decide +kernel
theorem dX1_slot_9 : decode cX1_slot 9 = .ok (.arraylength, 1) := by decide +kernel
theorem dX1_slot_10 : decode cX1_slot 10 = .ok (.if_icmp .ge 12, 3) := by decide +kernel
theorem dX1_slot_13 : decode cX1_slot 13 = .ok (.aload_n 0, 1) := by decide +kernel
theorem dX1_slot_14 : decode cX1_slot 14 = .ok (.getfield 13, 3) := by decide +kernel
theorem dX1_slot_17 : decode cX1_slot 17 = .ok (.iload_n 1, 1) := by decide +kernel
theorem dX1_slot_18 : decode cX1_slot 18 = .ok (.aaload, 1) := by decide +kernel
theorem dX1_slot_19 : decode cX1_slot 19 = .ok (.goto 4, 3) := by decide +kernel
theorem dX1_slot_22 : decode cX1_slot 22 = .ok (.aconst_null, 1) := by decide +kernel
theorem dX1_slot_23 : decode cX1_slot 23 = .ok (.areturn, 1) := by decide +kernel
theorem dX1_confirm_0 : decode cX1_confirm 0 = .ok (.iload_n 1, 1) := by decide +kernel
theorem dX1_confirm_1 : decode cX1_confirm 1 = .ok (.ifCond .lt 41, 3) := by decide +kernel
theorem dX1_confirm_4 : decode cX1_confirm 4 = .ok (.aload_n 0, 1) := by decide +kernel
theorem dX1_confirm_5 : decode cX1_confirm 5 = .ok (.aload_n 0, 1) := by decide +kernel
theorem dX1_confirm_6 : decode cX1_confirm 6 = .ok (.getfield 22, 3) := by decide +kernel
theorem dX1_confirm_9 : decode cX1_confirm 9 = .ok (.iconst 1, 1) := by decide +kernel
theorem dX1_confirm_10 : decode cX1_confirm 10 = .ok (.iadd, 1) := by decide +kernel
theorem dX1_confirm_11 : decode cX1_confirm 11 = .ok (.iconst 5, 1) := by decide +kernel
theorem dX1_confirm_12 : decode cX1_confirm 12 = .ok (.if_icmp .ge 12, 3) := by decide +kernel
theorem dX1_confirm_15 : decode cX1_confirm 15 = .ok (.aload_n 0, 1) := by decide +kernel
theorem dX1_confirm_16 : decode cX1_confirm 16 = .ok (.getfield 22, 3) := by decide +kernel
theorem dX1_confirm_19 : decode cX1_confirm 19 = .ok (.iconst 1, 1) := by decide +kernel
theorem dX1_confirm_20 : decode cX1_confirm 20 = .ok (.iadd, 1) := by decide +kernel
theorem dX1_confirm_21 : decode cX1_confirm 21 = .ok (.goto 4, 3) := by decide +kernel
theorem dX1_confirm_24 : decode cX1_confirm 24 = .ok (.iconst 0, 1) := by decide +kernel
theorem dX1_confirm_25 : decode cX1_confirm 25 = .ok (.putfield 22, 3) := by decide +kernel
theorem dX1_confirm_28 : decode cX1_confirm 28 = .ok (.aload_n 0, 1) := by decide +kernel
theorem dX1_confirm_29 : decode cX1_confirm 29 = .ok (.aload_n 0, 1) := by decide +kernel
theorem dX1_confirm_30 : decode cX1_confirm 30 = .ok (.getfield 18, 3) := by decide +kernel
theorem dX1_confirm_33 : decode cX1_confirm 33 = .ok (.iconst 1, 1) := by decide +kernel
theorem dX1_confirm_34 : decode cX1_confirm 34 = .ok (.iadd, 1) := by decide +kernel
theorem dX1_confirm_35 : decode cX1_confirm 35 = .ok (.iconst 4, 1) := by decide +kernel
theorem dX1_confirm_36 : decode cX1_confirm 36 = .ok (.invokestatic 33, 3) := by decide +kernel
theorem dX1_confirm_39 : decode cX1_confirm 39 = .ok (.putfield 18, 3) := by decide +kernel
theorem dX1_confirm_42 : decode cX1_confirm 42 = .ok (.iload_n 1, 1) := by decide +kernel
theorem dX1_confirm_43 : decode cX1_confirm 43 = .ok (.ireturn, 1) := by decide +kernel
theorem dX2_init_0 : decode cX2_init 0 = .ok (.aload_n 0, 1) := by decide +kernel
theorem dX2_init_1 : decode cX2_init 1 = .ok (.invokespecial 3, 3) := by decide +kernel
theorem dX2_init_4 : decode cX2_init 4 = .ok (.aload_n 0, 1) := by decide +kernel
theorem dX2_init_5 : decode cX2_init 5 = .ok (.aload_n 1, 1) := by decide +kernel
theorem dX2_init_6 : decode cX2_init 6 = .ok (.putfield 9, 3) := by decide +kernel
theorem dX2_init_9 : decode cX2_init 9 = .ok (.return_, 1) := by decide +kernel
theorem dX2_hailProtest_0 : decode cX2_hailProtest 0 = .ok (.aload_n 0, 1) := by decide +kernel
theorem dX2_hailProtest_1 : decode cX2_hailProtest 1 = .ok (.getfield 9, 3) := by decide +kernel
theorem dX2_hailProtest_4 : decode cX2_hailProtest 4 = .ok (.iload_n 1, 1) := by decide +kernel
theorem dX2_hailProtest_5 : decode cX2_hailProtest 5 = .ok (.invokevirtual 15, 3) := by decide +kernel
theorem dX2_hailProtest_8 : decode cX2_hailProtest 8 = .ok (.ifCond .eq 14, 3) := by decide +kernel
theorem dX2_hailProtest_11 : decode cX2_hailProtest 11 = .ok (.aload_n 0, 1) := by decide +kernel
theorem dX2_hailProtest_12 : decode cX2_hailProtest 12 = .ok (.getfield 9, 3) := by decide +kernel
theorem dX2_hailProtest_15 : decode cX2_hailProtest 15 = .ok (.iload_n 2, 1) := by decide +kernel
theorem dX2_hailProtest_16 : decode cX2_hailProtest 16 = .ok (.invokevirtual 15, 3) := by decide +kernel
theorem dX2_hailProtest_19 : decode cX2_hailProtest 19 = .ok (.ifCond .ne 5, 3) := by decide +kernel
theorem dX2_hailProtest_22 : decode cX2_hailProtest 22 = .ok (.iconst (-1), 1) := by decide +kernel
theorem dX2_hailProtest_23 : decode cX2_hailProtest 23 = .ok (.ireturn, 1) := by decide +kernel
theorem dX2_hailProtest_24 : decode cX2_hailProtest 24 = .ok (.iload_n 1, 1) := by decide +kernel
theorem dX2_hailProtest_25 : decode cX2_hailProtest 25 = .ok (.iload_n 2, 1) := by decide +kernel
theorem dX2_hailProtest_26 : decode cX2_hailProtest 26 = .ok (.if_icmp .ne 6, 3) := by decide +kernel
theorem dX2_hailProtest_29 : decode cX2_hailProtest 29 = .ok (.bipush (-2), 2) := by decide +kernel
theorem dX2_hailProtest_31 : decode cX2_hailProtest 31 = .ok (.ireturn, 1) := by decide +kernel
theorem dX2_hailProtest_32 : decode cX2_hailProtest 32 = .ok (.aload_n 0, 1) := by decide +kernel
theorem dX2_hailProtest_33 : decode cX2_hailProtest 33 = .ok (.getfield 9, 3) := by decide +kernel
theorem dX2_hailProtest_36 : decode cX2_hailProtest 36 = .ok (.invokevirtual 21, 3) := by decide +kernel
theorem dX2_hailProtest_39 : decode cX2_hailProtest 39 = .ok (.ifCond .eq 19, 3) := by decide +kernel
theorem dX2_hailProtest_42 : decode cX2_hailProtest 42 = .ok (.aload_n 0, 1) := by decide +kernel
theorem dX2_hailProtest_43 : decode cX2_hailProtest 43 = .ok (.iload_n 1, 1) := by decide +kernel
theorem dX2_hailProtest_44 : decode cX2_hailProtest 44 = .ok (.invokevirtual 25, 3) := by decide +kernel
theorem dX2_hailProtest_47 : decode cX2_hailProtest 47 = .ok (.ifCond .eq 11, 3) := by decide +kernel
theorem dX2_hailProtest_50 : decode cX2_hailProtest 50 = .ok (.aload_n 0, 1) := by decide +kernel
theorem dX2_hailProtest_51 : decode cX2_hailProtest 51 = .ok (.iload_n 2, 1) := by decide +kernel
theorem dX2_hailProtest_52 : decode cX2_hailProtest 52 = .ok (.invokevirtual 25, 3) := by decide +kernel
theorem dX2_hailProtest_55 : decode cX2_hailProtest 55 = .ok (.ifCond .ne 6, 3) := by decide +kernel
theorem dX2_hailProtest_58 : decode cX2_hailProtest 58 = .ok (.bipush (-4), 2) := by decide +kernel
theorem dX2_hailProtest_60 : decode cX2_hailProtest 60 = .ok (.ireturn, 1) := by decide +kernel
theorem dX2_hailProtest_61 : decode cX2_hailProtest 61 = .ok (.aload_n 0, 1) := by decide +kernel
theorem dX2_hailProtest_62 : decode cX2_hailProtest 62 = .ok (.getfield 9, 3) := by decide +kernel
theorem dX2_hailProtest_65 : decode cX2_hailProtest 65 = .ok (.getfield 28, 3) := by decide +kernel
theorem dX2_hailProtest_68 : decode cX2_hailProtest 68 = .ok (.bipush 10, 2) := by decide +kernel
theorem dX2_hailProtest_70 : decode cX2_hailProtest 70 = .ok (.if_icmp .lt 6, 3) := by decide +kernel
theorem dX2_hailProtest_73 : decode cX2_hailProtest 73 = .ok (.bipush (-3), 2) := by decide +kernel
theorem dX2_hailProtest_75 : decode cX2_hailProtest 75 = .ok (.ireturn, 1) := by decide +kernel
theorem dX2_hailProtest_76 : decode cX2_hailProtest 76 = .ok (.aload_n 0, 1) := by decide +kernel
theorem dX2_hailProtest_77 : decode cX2_hailProtest 77 = .ok (.getfield 9, 3) := by decide +kernel
theorem dX2_hailProtest_80 : decode cX2_hailProtest 80 = .ok (.getfield 28, 3) := by decide +kernel
theorem dX2_hailProtest_83 : decode cX2_hailProtest 83 = .ok (.istore_n 3, 1) := by decide +kernel
theorem dX2_hailProtest_84 : decode cX2_hailProtest 84 = .ok (.aload_n 0, 1) := by decide +kernel
theorem dX2_hailProtest_85 : decode cX2_hailProtest 85 = .ok (.getfield 9, 3) := by decide +kernel
theorem dX2_hailProtest_88 : decode cX2_hailProtest 88 = .ok (.getfield 32, 3) := by decide +kernel
theorem dX2_hailProtest_91 : decode cX2_hailProtest 91 = .ok (.iload_n 3, 1) := by decide +kernel
theorem dX2_hailProtest_92 : decode cX2_hailProtest 92 = .ok (.iconst 0, 1) := by decide +kernel
theorem dX2_hailProtest_93 : decode cX2_hailProtest 93 = .ok (.iload_n 1, 1) := by decide +kernel
theorem dX2_hailProtest_94 : decode cX2_hailProtest 94 = .ok (.invokevirtual 36, 3) := by decide +kernel
theorem dX2_hailProtest_97 : decode cX2_hailProtest 97 = .ok (.aload_n 0, 1) := by decide +kernel
theorem dX2_hailProtest_98 : decode cX2_hailProtest 98 = .ok (.getfield 9, 3) := by decide +kernel
theorem dX2_hailProtest_101 : decode cX2_hailProtest 101 = .ok (.getfield 32, 3) := by decide +kernel
theorem dX2_hailProtest_104 : decode cX2_hailProtest 104 = .ok (.iload_n 3, 1) := by decide +kernel
theorem dX2_hailProtest_105 : decode cX2_hailProtest 105 = .ok (.iconst 1, 1) := by decide +kernel
theorem dX2_hailProtest_106 : decode cX2_hailProtest 106 = .ok (.iload_n 2, 1) := by decide +kernel
theorem dX2_hailProtest_107 : decode cX2_hailProtest 107 = .ok (.invokevirtual 36, 3) := by decide +kernel
theorem dX2_hailProtest_110 : decode cX2_hailProtest 110 = .ok (.aload_n 0, 1) := by decide +kernel
theorem dX2_hailProtest_111 : decode cX2_hailProtest 111 = .ok (.getfield 9, 3) := by decide +kernel
theorem dX2_hailProtest_114 : decode cX2_hailProtest 114 = .ok (.getfield 32, 3) := by decide +kernel
theorem dX2_hailProtest_117 : decode cX2_hailProtest 117 = .ok (.iload_n 3, 1) := by decide +kernel
theorem dX2_hailProtest_118 : decode cX2_hailProtest 118 = .ok (.iconst 2, 1) := by decide +kernel
theorem dX2_hailProtest_119 : decode cX2_hailProtest 119 = .ok (.aload_n 0, 1) := by decide +kernel
theorem dX2_hailProtest_120 : decode cX2_hailProtest 120 = .ok (.getfield 9, 3) := by decide +kernel
theorem dX2_hailProtest_123 : decode cX2_hailProtest 123 = .ok (.getfield 42, 3) := by decide +kernel
theorem dX2_hailProtest_126 : decode cX2_hailProtest 126 = .ok (.invokevirtual 36, 3) := by decide +kernel
theorem dX2_hailProtest_129 : decode cX2_hailProtest 129 = .ok (.aload_n 0, 1) := by decide +kernel
theorem dX2_hailProtest_130 : decode cX2_hailProtest 130 = .ok (.getfield 9, 3) := by decide +kernel
theorem dX2_hailProtest_133 : decode cX2_hailProtest 133 = .ok (.getfield 32, 3) := by decide +kernel
theorem dX2_hailProtest_136 : decode cX2_hailProtest 136 = .ok (.iload_n 3, 1) := by decide +kernel
theorem dX2_hailProtest_137 : decode cX2_hailProtest 137 = .ok (.iconst 3, 1) := by decide +kernel
theorem dX2_hailProtest_138 : decode cX2_hailProtest 138 = .ok (.iconst 0, 1) := by decide +kernel
theorem dX2_hailProtest_139 : decode cX2_hailProtest 139 = .ok (.invokevirtual 36, 3) := by decide +kernel
theorem dX2_hailProtest_142 : decode cX2_hailProtest 142 = .ok (.aload_n 0, 1) := by decide +kernel
theorem dX2_hailProtest_143 : decode cX2_hailProtest 143 = .ok (.getfield 9, 3) := by decide +kernel
theorem dX2_hailProtest_146 : decode cX2_hailProtest 146 = .ok (.dup, 1) := by decide +kernel
theorem dX2_hailProtest_147 : decode cX2_hailProtest 147 = .ok (.getfield 28, 3) := by decide +kernel
theorem dX2_hailProtest_150 : decode cX2_hailProtest 150 = .ok (.iconst 1, 1) := by decide +kernel
theorem dX2_hailProtest_151 : decode cX2_hailProtest 151 = .ok (.iadd, 1) := by decide +kernel
theorem dX2_hailProtest_152 : decode cX2_hailProtest 152 = .ok (.putfield 28, 3) := by decide +kernel
theorem dX2_hailProtest_155 : decode cX2_hailProtest 155 = .ok (.iload_n 3, 1) := by decide +kernel
theorem dX2_hailProtest_156 : decode cX2_hailProtest 156 = .ok (.ireturn, 1) := by decide +kernel
theorem dX2_isOnCourse_0 : decode cX2_isOnCourse 0 = .ok (.aload_n 0, 1) := by decide +kernel
theorem dX2_isOnCourse_1 : decode cX2_isOnCourse 1 = .ok (.getfield 9, 3) := by decide +kernel
theorem dX2_isOnCourse_4 : decode cX2_isOnCourse 4 = .ok (.iload_n 1, 1) := by decide +kernel
theorem dX2_isOnCourse_5 : decode cX2_isOnCourse 5 = .ok (.iconst 0, 1) := by decide +kernel
theorem dX2_isOnCourse_6 : decode cX2_isOnCourse 6 = .ok (.invokevirtual 45, 3) := by decide +kernel
theorem dX2_isOnCourse_9 : decode cX2_isOnCourse 9 = .ok (.istore_n 2, 1) := by decide +kernel
theorem dX2_isOnCourse_10 : decode cX2_isOnCourse 10 = .ok (.iload_n 2, 1) := by decide +kernel
theorem dX2_isOnCourse_11 : decode cX2_isOnCourse 11 = .ok (.iconst 2, 1) := by decide +kernel
theorem dX2_isOnCourse_12 : decode cX2_isOnCourse 12 = .ok (.if_icmp .eq 8, 3) := by decide +kernel
theorem dX2_isOnCourse_15 : decode cX2_isOnCourse 15 = .ok (.iload_n 2, 1) := by decide +kernel
theorem dX2_isOnCourse_16 : decode cX2_isOnCourse 16 = .ok (.iconst 3, 1) := by decide +kernel
theorem dX2_isOnCourse_17 : decode cX2_isOnCourse 17 = .ok (.if_icmp .ne 7, 3) := by decide +kernel
theorem dX2_isOnCourse_20 : decode cX2_isOnCourse 20 = .ok (.iconst 1, 1) := by decide +kernel
theorem dX2_isOnCourse_21 : decode cX2_isOnCourse 21 = .ok (.goto 4, 3) := by decide +kernel
theorem dX2_isOnCourse_24 : decode cX2_isOnCourse 24 = .ok (.iconst 0, 1) := by decide +kernel
theorem dX2_isOnCourse_25 : decode cX2_isOnCourse 25 = .ok (.ireturn, 1) := by decide +kernel
theorem dX2_fileProtest_0 : decode cX2_fileProtest 0 = .ok (.aload_n 0, 1) := by decide +kernel
theorem dX2_fileProtest_1 : decode cX2_fileProtest 1 = .ok (.getfield 9, 3) := by decide +kernel
theorem dX2_fileProtest_4 : decode cX2_fileProtest 4 = .ok (.iload_n 1, 1) := by decide +kernel
theorem dX2_fileProtest_5 : decode cX2_fileProtest 5 = .ok (.invokevirtual 49, 3) := by decide +kernel
theorem dX2_fileProtest_8 : decode cX2_fileProtest 8 = .ok (.ifCond .ne 5, 3) := by decide +kernel
theorem dX2_fileProtest_11 : decode cX2_fileProtest 11 = .ok (.iconst (-1), 1) := by decide +kernel
theorem dX2_fileProtest_12 : decode cX2_fileProtest 12 = .ok (.ireturn, 1) := by decide +kernel
theorem dX2_fileProtest_13 : decode cX2_fileProtest 13 = .ok (.aload_n 0, 1) := by decide +kernel
theorem dX2_fileProtest_14 : decode cX2_fileProtest 14 = .ok (.getfield 9, 3) := by decide +kernel
theorem dX2_fileProtest_17 : decode cX2_fileProtest 17 = .ok (.getfield 32, 3) := by decide +kernel
theorem dX2_fileProtest_20 : decode cX2_fileProtest 20 = .ok (.iload_n 1, 1) := by decide +kernel
theorem dX2_fileProtest_21 : decode cX2_fileProtest 21 = .ok (.iconst 0, 1) := by decide +kernel
theorem dX2_fileProtest_22 : decode cX2_fileProtest 22 = .ok (.invokevirtual 52, 3) := by decide +kernel
theorem dX2_fileProtest_25 : decode cX2_fileProtest 25 = .ok (.istore_n 2, 1) := by decide +kernel
theorem dX2_fileProtest_26 : decode cX2_fileProtest 26 = .ok (.aload_n 0, 1) := by decide +kernel
theorem dX2_fileProtest_27 : decode cX2_fileProtest 27 = .ok (.getfield 9, 3) := by decide +kernel
theorem dX2_fileProtest_30 : decode cX2_fileProtest 30 = .ok (.getfield 32, 3) := by decide +kernel
theorem dX2_fileProtest_33 : decode cX2_fileProtest 33 = .ok (.iload_n 1, 1) := by decide +kernel
theorem dX2_fileProtest_34 : decode cX2_fileProtest 34 = .ok (.iconst 3, 1) := by decide +kernel
theorem dX2_fileProtest_35 : decode cX2_fileProtest 35 = .ok (.invokevirtual 52, 3) := by decide +kernel
theorem dX2_fileProtest_38 : decode cX2_fileProtest 38 = .ok (.ifCond .ne 16, 3) := by decide +kernel
theorem dX2_fileProtest_41 : decode cX2_fileProtest 41 = .ok (.aload_n 0, 1) := by decide +kernel
theorem dX2_fileProtest_42 : decode cX2_fileProtest 42 = .ok (.getfield 9, 3) := by decide +kernel
theorem dX2_fileProtest_45 : decode cX2_fileProtest 45 = .ok (.iload_n 2, 1) := by decide +kernel
theorem dX2_fileProtest_46 : decode cX2_fileProtest 46 = .ok (.iconst 0, 1) := by decide +kernel
theorem dX2_fileProtest_47 : decode cX2_fileProtest 47 = .ok (.invokevirtual 45, 3) := by decide +kernel
theorem dX2_fileProtest_50 : decode cX2_fileProtest 50 = .ok (.iconst 3, 1) := by decide +kernel
theorem dX2_fileProtest_51 : decode cX2_fileProtest 51 = .ok (.if_icmp .eq 6, 3) := by decide +kernel
theorem dX2_fileProtest_54 : decode cX2_fileProtest 54 = .ok (.bipush (-4), 2) := by decide +kernel
theorem dX2_fileProtest_56 : decode cX2_fileProtest 56 = .ok (.ireturn, 1) := by decide +kernel
theorem dX2_fileProtest_57 : decode cX2_fileProtest 57 = .ok (.aload_n 0, 1) := by decide +kernel
theorem dX2_fileProtest_58 : decode cX2_fileProtest 58 = .ok (.getfield 9, 3) := by decide +kernel
theorem dX2_fileProtest_61 : decode cX2_fileProtest 61 = .ok (.iload_n 2, 1) := by decide +kernel
theorem dX2_fileProtest_62 : decode cX2_fileProtest 62 = .ok (.iconst 5, 1) := by decide +kernel
theorem dX2_fileProtest_63 : decode cX2_fileProtest 63 = .ok (.invokevirtual 45, 3) := by decide +kernel
theorem dX2_fileProtest_66 : decode cX2_fileProtest 66 = .ok (.aload_n 0, 1) := by decide +kernel
theorem dX2_fileProtest_67 : decode cX2_fileProtest 67 = .ok (.getfield 9, 3) := by decide +kernel
theorem dX2_fileProtest_70 : decode cX2_fileProtest 70 = .ok (.iconst 0, 1) := by decide +kernel
theorem dX2_fileProtest_71 : decode cX2_fileProtest 71 = .ok (.invokevirtual 55, 3) := by decide +kernel
theorem dX2_fileProtest_74 : decode cX2_fileProtest 74 = .ok (.iadd, 1) := by decide +kernel
theorem dX2_fileProtest_75 : decode cX2_fileProtest 75 = .ok (.aload_n 0, 1) := by decide +kernel
theorem dX2_fileProtest_76 : decode cX2_fileProtest 76 = .ok (.getfield 9, 3) := by decide +kernel
theorem dX2_fileProtest_79 : decode cX2_fileProtest 79 = .ok (.getfield 42, 3) := by decide +kernel
theorem dX2_fileProtest_82 : decode cX2_fileProtest 82 = .ok (.isub, 1) := by decide +kernel
theorem dX2_fileProtest_83 : decode cX2_fileProtest 83 = .ok (.istore_n 3, 1) := by decide +kernel
theorem dX2_fileProtest_84 : decode cX2_fileProtest 84 = .ok (.iload_n 3, 1) := by decide +kernel
theorem dX2_fileProtest_85 : decode cX2_fileProtest 85 = .ok (.ifCond .ge 6, 3) := by decide +kernel
theorem dX2_fileProtest_88 : decode cX2_fileProtest 88 = .ok (.bipush (-4), 2) := by decide +kernel
theorem dX2_fileProtest_90 : decode cX2_fileProtest 90 = .ok (.ireturn, 1) := by decide +kernel
theorem dX2_fileProtest_91 : decode cX2_fileProtest 91 = .ok (.aload_n 0, 1) := by decide +kernel
theorem dX2_fileProtest_92 : decode cX2_fileProtest 92 = .ok (.getfield 9, 3) := by decide +kernel
theorem dX2_fileProtest_95 : decode cX2_fileProtest 95 = .ok (.getfield 32, 3) := by decide +kernel
theorem dX2_fileProtest_98 : decode cX2_fileProtest 98 = .ok (.iload_n 1, 1) := by decide +kernel
theorem dX2_fileProtest_99 : decode cX2_fileProtest 99 = .ok (.iconst 3, 1) := by decide +kernel
theorem dX2_fileProtest_100 : decode cX2_fileProtest 100 = .ok (.iconst 1, 1) := by decide +kernel
theorem dX2_fileProtest_101 : decode cX2_fileProtest 101 = .ok (.invokevirtual 36, 3) := by decide +kernel
theorem dX2_fileProtest_104 : decode cX2_fileProtest 104 = .ok (.iload_n 3, 1) := by decide +kernel
theorem dX2_fileProtest_105 : decode cX2_fileProtest 105 = .ok (.ireturn, 1) := by decide +kernel
theorem dX2_acceptProtest_0 : decode cX2_acceptProtest 0 = .ok (.aload_n 0, 1) := by decide +kernel
theorem dX2_acceptProtest_1 : decode cX2_acceptProtest 1 = .ok (.getfield 9, 3) := by decide +kernel
theorem dX2_acceptProtest_4 : decode cX2_acceptProtest 4 = .ok (.iload_n 1, 1) := by decide +kernel
theorem dX2_acceptProtest_5 : decode cX2_acceptProtest 5 = .ok (.invokevirtual 49, 3) := by decide +kernel
theorem dX2_acceptProtest_8 : decode cX2_acceptProtest 8 = .ok (.ifCond .ne 5, 3) := by decide +kernel
theorem dX2_acceptProtest_11 : decode cX2_acceptProtest 11 = .ok (.iconst (-1), 1) := by decide +kernel
theorem dX2_acceptProtest_12 : decode cX2_acceptProtest 12 = .ok (.ireturn, 1) := by decide +kernel
theorem dX2_acceptProtest_13 : decode cX2_acceptProtest 13 = .ok (.aload_n 0, 1) := by decide +kernel
theorem dX2_acceptProtest_14 : decode cX2_acceptProtest 14 = .ok (.getfield 9, 3) := by decide +kernel
theorem dX2_acceptProtest_17 : decode cX2_acceptProtest 17 = .ok (.getfield 32, 3) := by decide +kernel
theorem dX2_acceptProtest_20 : decode cX2_acceptProtest 20 = .ok (.iload_n 1, 1) := by decide +kernel
theorem dX2_acceptProtest_21 : decode cX2_acceptProtest 21 = .ok (.iconst 3, 1) := by decide +kernel
theorem dX2_acceptProtest_22 : decode cX2_acceptProtest 22 = .ok (.invokevirtual 52, 3) := by decide +kernel
theorem dX2_acceptProtest_25 : decode cX2_acceptProtest 25 = .ok (.istore_n 2, 1) := by decide +kernel
theorem dX2_acceptProtest_26 : decode cX2_acceptProtest 26 = .ok (.aload_n 0, 1) := by decide +kernel
theorem dX2_acceptProtest_27 : decode cX2_acceptProtest 27 = .ok (.getfield 9, 3) := by decide +kernel
theorem dX2_acceptProtest_30 : decode cX2_acceptProtest 30 = .ok (.getfield 32, 3) := by decide +kernel
theorem dX2_acceptProtest_33 : decode cX2_acceptProtest 33 = .ok (.iload_n 1, 1) := by decide +kernel
theorem dX2_acceptProtest_34 : decode cX2_acceptProtest 34 = .ok (.iconst 1, 1) := by decide +kernel
theorem dX2_acceptProtest_35 : decode cX2_acceptProtest 35 = .ok (.invokevirtual 52, 3) := by decide +kernel
theorem dX2_acceptProtest_38 : decode cX2_acceptProtest 38 = .ok (.istore_n 3, 1) := by decide +kernel
theorem dX2_acceptProtest_39 : decode cX2_acceptProtest 39 = .ok (.iload_n 2, 1) := by decide +kernel
theorem dX2_acceptProtest_40 : decode cX2_acceptProtest 40 = .ok (.ifCond .eq 8, 3) := by decide +kernel
theorem dX2_acceptProtest_43 : decode cX2_acceptProtest 43 = .ok (.iload_n 2, 1) := by decide +kernel
theorem dX2_acceptProtest_44 : decode cX2_acceptProtest 44 = .ok (.iconst 1, 1) := by decide +kernel
theorem dX2_acceptProtest_45 : decode cX2_acceptProtest 45 = .ok (.if_icmp .ne 16, 3) := by decide +kernel
theorem dX2_acceptProtest_48 : decode cX2_acceptProtest 48 = .ok (.aload_n 0, 1) := by decide +kernel
theorem dX2_acceptProtest_49 : decode cX2_acceptProtest 49 = .ok (.getfield 9, 3) := by decide +kernel
theorem dX2_acceptProtest_52 : decode cX2_acceptProtest 52 = .ok (.iload_n 3, 1) := by decide +kernel
theorem dX2_acceptProtest_53 : decode cX2_acceptProtest 53 = .ok (.iconst 0, 1) := by decide +kernel
theorem dX2_acceptProtest_54 : decode cX2_acceptProtest 54 = .ok (.invokevirtual 45, 3) := by decide +kernel
theorem dX2_acceptProtest_57 : decode cX2_acceptProtest 57 = .ok (.iconst 4, 1) := by decide +kernel
theorem dX2_acceptProtest_58 : decode cX2_acceptProtest 58 = .ok (.if_icmp .ne 6, 3) := by decide +kernel
theorem dX2_acceptProtest_61 : decode cX2_acceptProtest 61 = .ok (.bipush (-4), 2) := by decide +kernel
theorem dX2_acceptProtest_63 : decode cX2_acceptProtest 63 = .ok (.ireturn, 1) := by decide +kernel
theorem dX2_acceptProtest_64 : decode cX2_acceptProtest 64 = .ok (.aload_n 0, 1) := by decide +kernel
theorem dX2_acceptProtest_65 : decode cX2_acceptProtest 65 = .ok (.getfield 9, 3) := by decide +kernel
theorem dX2_acceptProtest_68 : decode cX2_acceptProtest 68 = .ok (.iload_n 3, 1) := by decide +kernel
theorem dX2_acceptProtest_69 : decode cX2_acceptProtest 69 = .ok (.iconst 3, 1) := by decide +kernel
theorem dX2_acceptProtest_70 : decode cX2_acceptProtest 70 = .ok (.invokevirtual 45, 3) := by decide +kernel
theorem dX2_acceptProtest_73 : decode cX2_acceptProtest 73 = .ok (.aload_n 0, 1) := by decide +kernel
theorem dX2_acceptProtest_74 : decode cX2_acceptProtest 74 = .ok (.getfield 9, 3) := by decide +kernel
theorem dX2_acceptProtest_77 : decode cX2_acceptProtest 77 = .ok (.iconst 1, 1) := by decide +kernel
theorem dX2_acceptProtest_78 : decode cX2_acceptProtest 78 = .ok (.invokevirtual 55, 3) := by decide +kernel
theorem dX2_acceptProtest_81 : decode cX2_acceptProtest 81 = .ok (.iadd, 1) := by decide +kernel
theorem dX2_acceptProtest_82 : decode cX2_acceptProtest 82 = .ok (.istore 4, 2) := by decide +kernel
theorem dX2_acceptProtest_84 : decode cX2_acceptProtest 84 = .ok (.aload_n 0, 1) := by decide +kernel
theorem dX2_acceptProtest_85 : decode cX2_acceptProtest 85 = .ok (.getfield 9, 3) := by decide +kernel
theorem dX2_acceptProtest_88 : decode cX2_acceptProtest 88 = .ok (.iload_n 3, 1) := by decide +kernel
theorem dX2_acceptProtest_89 : decode cX2_acceptProtest 89 = .ok (.iconst 3, 1) := by decide +kernel
theorem dX2_acceptProtest_90 : decode cX2_acceptProtest 90 = .ok (.iload 4, 2) := by decide +kernel
theorem dX2_acceptProtest_92 : decode cX2_acceptProtest 92 = .ok (.invokevirtual 59, 3) := by decide +kernel
theorem dX2_acceptProtest_95 : decode cX2_acceptProtest 95 = .ok (.aload_n 0, 1) := by decide +kernel
theorem dX2_acceptProtest_96 : decode cX2_acceptProtest 96 = .ok (.getfield 9, 3) := by decide +kernel
theorem dX2_acceptProtest_99 : decode cX2_acceptProtest 99 = .ok (.getfield 32, 3) := by decide +kernel
theorem dX2_acceptProtest_102 : decode cX2_acceptProtest 102 = .ok (.iload_n 1, 1) := by decide +kernel
theorem dX2_acceptProtest_103 : decode cX2_acceptProtest 103 = .ok (.iconst 3, 1) := by decide +kernel
theorem dX2_acceptProtest_104 : decode cX2_acceptProtest 104 = .ok (.iconst 2, 1) := by decide +kernel
theorem dX2_acceptProtest_105 : decode cX2_acceptProtest 105 = .ok (.invokevirtual 36, 3) := by decide +kernel
theorem dX2_acceptProtest_108 : decode cX2_acceptProtest 108 = .ok (.iload 4, 2) := by decide +kernel
theorem dX2_acceptProtest_110 : decode cX2_acceptProtest 110 = .ok (.ireturn, 1) := by decide +kernel
theorem dX2_decideProtest_0 : decode cX2_decideProtest 0 = .ok (.aload_n 0, 1) := by decide +kernel
theorem dX2_decideProtest_1 : decode cX2_decideProtest 1 = .ok (.getfield 9, 3) := by decide +kernel
theorem dX2_decideProtest_4 : decode cX2_decideProtest 4 = .ok (.iload_n 1, 1) := by decide +kernel
theorem dX2_decideProtest_5 : decode cX2_decideProtest 5 = .ok (.invokevirtual 49, 3) := by decide +kernel
theorem dX2_decideProtest_8 : decode cX2_decideProtest 8 = .ok (.ifCond .ne 5, 3) := by decide +kernel
theorem dX2_decideProtest_11 : decode cX2_decideProtest 11 = .ok (.iconst (-1), 1) := by decide +kernel
theorem dX2_decideProtest_12 : decode cX2_decideProtest 12 = .ok (.ireturn, 1) := by decide +kernel
theorem dX2_decideProtest_13 : decode cX2_decideProtest 13 = .ok (.aload_n 0, 1) := by decide +kernel
theorem dX2_decideProtest_14 : decode cX2_decideProtest 14 = .ok (.getfield 9, 3) := by decide +kernel
theorem dX2_decideProtest_17 : decode cX2_decideProtest 17 = .ok (.getfield 32, 3) := by decide +kernel
theorem dX2_decideProtest_20 : decode cX2_decideProtest 20 = .ok (.iload_n 1, 1) := by decide +kernel
theorem dX2_decideProtest_21 : decode cX2_decideProtest 21 = .ok (.iconst 3, 1) := by decide +kernel
theorem dX2_decideProtest_22 : decode cX2_decideProtest 22 = .ok (.invokevirtual 52, 3) := by decide +kernel
theorem dX2_decideProtest_25 : decode cX2_decideProtest 25 = .ok (.iconst 1, 1) := by decide +kernel
theorem dX2_decideProtest_26 : decode cX2_decideProtest 26 = .ok (.if_icmp .eq 6, 3) := by decide +kernel
theorem dX2_decideProtest_29 : decode cX2_decideProtest 29 = .ok (.bipush (-4), 2) := by decide +kernel
theorem dX2_decideProtest_31 : decode cX2_decideProtest 31 = .ok (.ireturn, 1) := by decide +kernel
theorem dX2_decideProtest_32 : decode cX2_decideProtest 32 = .ok (.aload_n 0, 1) := by decide +kernel
theorem dX2_decideProtest_33 : decode cX2_decideProtest 33 = .ok (.getfield 9, 3) := by decide +kernel
theorem dX2_decideProtest_36 : decode cX2_decideProtest 36 = .ok (.getfield 32, 3) := by decide +kernel
theorem dX2_decideProtest_39 : decode cX2_decideProtest 39 = .ok (.iload_n 1, 1) := by decide +kernel
theorem dX2_decideProtest_40 : decode cX2_decideProtest 40 = .ok (.iconst 3, 1) := by decide +kernel
theorem dX2_decideProtest_41 : decode cX2_decideProtest 41 = .ok (.iload_n 2, 1) := by decide +kernel
theorem dX2_decideProtest_42 : decode cX2_decideProtest 42 = .ok (.ifCond .eq 7, 3) := by decide +kernel
theorem dX2_decideProtest_45 : decode cX2_decideProtest 45 = .ok (.iconst 3, 1) := by decide +kernel
theorem dX2_decideProtest_46 : decode cX2_decideProtest 46 = .ok (.goto 4, 3) := by decide +kernel
theorem dX2_decideProtest_49 : decode cX2_decideProtest 49 = .ok (.iconst 4, 1) := by decide +kernel
theorem dX2_decideProtest_50 : decode cX2_decideProtest 50 = .ok (.invokevirtual 36, 3) := by decide +kernel
theorem dX2_decideProtest_53 : decode cX2_decideProtest 53 = .ok (.iload_n 2, 1) := by decide +kernel
theorem dX2_decideProtest_54 : decode cX2_decideProtest 54 = .ok (.ifCond .eq 24, 3) := by decide +kernel
theorem dX2_decideProtest_57 : decode cX2_decideProtest 57 = .ok (.aload_n 0, 1) := by decide +kernel
theorem dX2_decideProtest_58 : decode cX2_decideProtest 58 = .ok (.getfield 9, 3) := by decide +kernel
theorem dX2_decideProtest_61 : decode cX2_decideProtest 61 = .ok (.aload_n 0, 1) := by decide +kernel
theorem dX2_decideProtest_62 : decode cX2_decideProtest 62 = .ok (.getfield 9, 3) := by decide +kernel
theorem dX2_decideProtest_65 : decode cX2_decideProtest 65 = .ok (.getfield 32, 3) := by decide +kernel
theorem dX2_decideProtest_68 : decode cX2_decideProtest 68 = .ok (.iload_n 1, 1) := by decide +kernel
theorem dX2_decideProtest_69 : decode cX2_decideProtest 69 = .ok (.iconst 1, 1) := by decide +kernel
theorem dX2_decideProtest_70 : decode cX2_decideProtest 70 = .ok (.invokevirtual 52, 3) := by decide +kernel
theorem dX2_decideProtest_73 : decode cX2_decideProtest 73 = .ok (.iconst 4, 1) := by decide +kernel
theorem dX2_decideProtest_74 : decode cX2_decideProtest 74 = .ok (.iconst 1, 1) := by decide +kernel
theorem dX2_decideProtest_75 : decode cX2_decideProtest 75 = .ok (.invokevirtual 59, 3) := by decide +kernel
theorem dX2_decideProtest_78 : decode cX2_decideProtest 78 = .ok (.aload_n 0, 1) := by decide +kernel
theorem dX2_decideProtest_79 : decode cX2_decideProtest 79 = .ok (.getfield 9, 3) := by decide +kernel
theorem dX2_decideProtest_82 : decode cX2_decideProtest 82 = .ok (.aload_n 0, 1) := by decide +kernel
theorem dX2_decideProtest_83 : decode cX2_decideProtest 83 = .ok (.getfield 9, 3) := by decide +kernel
theorem dX2_decideProtest_86 : decode cX2_decideProtest 86 = .ok (.invokevirtual 62, 3) := by decide +kernel
theorem dX2_decideProtest_89 : decode cX2_decideProtest 89 = .ok (.iconst 4, 1) := by decide +kernel
theorem dX2_decideProtest_90 : decode cX2_decideProtest 90 = .ok (.iconst 1, 1) := by decide +kernel
theorem dX2_decideProtest_91 : decode cX2_decideProtest 91 = .ok (.invokevirtual 66, 3) := by decide +kernel
theorem dX2_decideProtest_94 : decode cX2_decideProtest 94 = .ok (.ireturn, 1) := by decide +kernel
theorem dX3_init_0 : decode cX3_init 0 = .ok (.aload_n 0, 1) := by decide +kernel
theorem dX3_init_1 : decode cX3_init 1 = .ok (.invokespecial 3, 3) := by decide +kernel
theorem dX3_init_4 : decode cX3_init 4 = .ok (.aload_n 0, 1) := by decide +kernel
theorem dX3_init_5 : decode cX3_init 5 = .ok (.new 9, 3) := by decide +kernel
theorem dX3_init_8 : decode cX3_init 8 = .ok (.dup, 1) := by decide +kernel
theorem dX3_init_9 : decode cX3_init 9 = .ok (.invokespecial 11, 3) := by decide +kernel
theorem dX3_init_12 : decode cX3_init 12 = .ok (.putfield 12, 3) := by decide +kernel
theorem dX3_init_15 : decode cX3_init 15 = .ok (.return_, 1) := by decide +kernel
theorem dX3_length_0 : decode cX3_length 0 = .ok (.aload_n 0, 1) := by decide +kernel
theorem dX3_length_1 : decode cX3_length 1 = .ok (.getfield 12, 3) := by decide +kernel
theorem dX3_length_4 : decode cX3_length 4 = .ok (.invokevirtual 18, 3) := by decide +kernel
theorem dX3_length_7 : decode cX3_length 7 = .ok (.ireturn, 1) := by decide +kernel
theorem dX4_init_0 : decode cX4_init 0 = .ok (.aload_n 0, 1) := by decide +kernel
theorem dX4_init_1 : decode cX4_init 1 = .ok (.invokespecial 3, 3) := by decide +kernel
theorem dX4_init_4 : decode cX4_init 4 = .ok (.aload_n 0, 1) := by decide +kernel
theorem dX4_init_5 : decode cX4_init 5 = .ok (.aload_n 1, 1) := by decide +kernel
theorem dX4_init_6 : decode cX4_init 6 = .ok (.putfield 9, 3) := by decide +kernel
theorem dX4_init_9 : decode cX4_init 9 = .ok (.aload_n 0, 1) := by decide +kernel
theorem dX4_init_10 : decode cX4_init 10 = .ok (.new 15, 3) := by decide +kernel
theorem dX4_init_13 : decode cX4_init 13 = .ok (.dup, 1) := by decide +kernel
theorem dX4_init_14 : decode cX4_init 14 = .ok (.bipush 9, 2) := by decide +kernel
theorem dX4_init_16 : decode cX4_init 16 = .ok (.iconst 1, 1) := by decide +kernel
theorem dX4_init_17 : decode cX4_init 17 = .ok (.invokespecial 17, 3) := by decide +kernel
theorem dX4_init_20 : decode cX4_init 20 = .ok (.putfield 20, 3) := by decide +kernel
theorem dX4_init_23 : decode cX4_init 23 = .ok (.aload_n 0, 1) := by decide +kernel
theorem dX4_init_24 : decode cX4_init 24 = .ok (.new 15, 3) := by decide +kernel
theorem dX4_init_27 : decode cX4_init 27 = .ok (.dup, 1) := by decide +kernel
theorem dX4_init_28 : decode cX4_init 28 = .ok (.bipush 6, 2) := by decide +kernel
theorem dX4_init_30 : decode cX4_init 30 = .ok (.bipush 9, 2) := by decide +kernel
theorem dX4_init_32 : decode cX4_init 32 = .ok (.invokespecial 17, 3) := by decide +kernel
theorem dX4_init_35 : decode cX4_init 35 = .ok (.putfield 24, 3) := by decide +kernel
theorem dX4_init_38 : decode cX4_init 38 = .ok (.aload_n 0, 1) := by decide +kernel
theorem dX4_init_39 : decode cX4_init 39 = .ok (.new 15, 3) := by decide +kernel
theorem dX4_init_42 : decode cX4_init 42 = .ok (.dup, 1) := by decide +kernel
theorem dX4_init_43 : decode cX4_init 43 = .ok (.bipush 9, 2) := by decide +kernel
theorem dX4_init_45 : decode cX4_init 45 = .ok (.iconst 4, 1) := by decide +kernel
theorem dX4_init_46 : decode cX4_init 46 = .ok (.invokespecial 17, 3) := by decide +kernel
theorem dX4_init_49 : decode cX4_init 49 = .ok (.putfield 27, 3) := by decide +kernel
theorem dX4_init_52 : decode cX4_init 52 = .ok (.aload_n 0, 1) := by decide +kernel
theorem dX4_init_53 : decode cX4_init 53 = .ok (.new 15, 3) := by decide +kernel
theorem dX4_init_56 : decode cX4_init 56 = .ok (.dup, 1) := by decide +kernel
theorem dX4_init_57 : decode cX4_init 57 = .ok (.bipush 9, 2) := by decide +kernel
theorem dX4_init_59 : decode cX4_init 59 = .ok (.bipush 10, 2) := by decide +kernel
theorem dX4_init_61 : decode cX4_init 61 = .ok (.invokespecial 17, 3) := by decide +kernel
theorem dX4_init_64 : decode cX4_init 64 = .ok (.putfield 30, 3) := by decide +kernel
theorem dX4_init_67 : decode cX4_init 67 = .ok (.return_, 1) := by decide +kernel
theorem dX4_readTimes_0 : decode cX4_readTimes 0 = .ok (.iconst 0, 1) := by decide +kernel
theorem dX4_readTimes_1 : decode cX4_readTimes 1 = .ok (.istore_n 2, 1) := by decide +kernel
theorem dX4_readTimes_2 : decode cX4_readTimes 2 = .ok (.iload_n 2, 1) := by decide +kernel
theorem dX4_readTimes_3 : decode cX4_readTimes 3 = .ok (.aload_n 0, 1) := by decide +kernel
theorem dX4_readTimes_4 : decode cX4_readTimes 4 = .ok (.getfield 9, 3) := by decide +kernel
theorem dX4_readTimes_7 : decode cX4_readTimes 7 = .ok (.getfield 33, 3) := by decide +kernel
theorem dX4_readTimes_10 : decode cX4_readTimes 10 = .ok (.if_icmp .ge 66, 3) := by decide +kernel
theorem dX4_readTimes_13 : decode cX4_readTimes 13 = .ok (.aload_n 0, 1) := by decide +kernel
theorem dX4_readTimes_14 : decode cX4_readTimes 14 = .ok (.getfield 9, 3) := by decide +kernel
theorem dX4_readTimes_17 : decode cX4_readTimes 17 = .ok (.getfield 39, 3) := by decide +kernel
theorem dX4_readTimes_20 : decode cX4_readTimes 20 = .ok (.aload_n 0, 1) := by decide +kernel
theorem dX4_readTimes_21 : decode cX4_readTimes 21 = .ok (.getfield 9, 3) := by decide +kernel
theorem dX4_readTimes_24 : decode cX4_readTimes 24 = .ok (.iload_n 1, 1) := by decide +kernel
theorem dX4_readTimes_25 : decode cX4_readTimes 25 = .ok (.iload_n 2, 1) := by decide +kernel
theorem dX4_readTimes_26 : decode cX4_readTimes 26 = .ok (.invokevirtual 42, 3) := by decide +kernel
theorem dX4_readTimes_29 : decode cX4_readTimes 29 = .ok (.iconst 4, 1) := by decide +kernel
theorem dX4_readTimes_30 : decode cX4_readTimes 30 = .ok (.invokevirtual 46, 3) := by decide +kernel
theorem dX4_readTimes_33 : decode cX4_readTimes 33 = .ok (.iconst 1, 1) := by decide +kernel
theorem dX4_readTimes_34 : decode cX4_readTimes 34 = .ok (.if_icmp .ne 7, 3) := by decide +kernel
theorem dX4_readTimes_37 : decode cX4_readTimes 37 = .ok (.iconst 1, 1) := by decide +kernel
theorem dX4_readTimes_38 : decode cX4_readTimes 38 = .ok (.goto 4, 3) := by decide +kernel
theorem dX4_readTimes_41 : decode cX4_readTimes 41 = .ok (.iconst 0, 1) := by decide +kernel
theorem dX4_readTimes_42 : decode cX4_readTimes 42 = .ok (.istore_n 3, 1) := by decide +kernel
theorem dX4_readTimes_43 : decode cX4_readTimes 43 = .ok (.aload_n 0, 1) := by decide +kernel
theorem dX4_readTimes_44 : decode cX4_readTimes 44 = .ok (.getfield 20, 3) := by decide +kernel
theorem dX4_readTimes_47 : decode cX4_readTimes 47 = .ok (.iload_n 2, 1) := by decide +kernel
theorem dX4_readTimes_48 : decode cX4_readTimes 48 = .ok (.iconst 0, 1) := by decide +kernel
theorem dX4_readTimes_49 : decode cX4_readTimes 49 = .ok (.iload_n 3, 1) := by decide +kernel
theorem dX4_readTimes_50 : decode cX4_readTimes 50 = .ok (.ifCond .eq 8, 3) := by decide +kernel
theorem dX4_readTimes_53 : decode cX4_readTimes 53 = .ok (.bipush (-5), 2) := by decide +kernel
theorem dX4_readTimes_55 : decode cX4_readTimes 55 = .ok (.goto 12, 3) := by decide +kernel
theorem dX4_readTimes_58 : decode cX4_readTimes 58 = .ok (.aload_n 0, 1) := by decide +kernel
theorem dX4_readTimes_59 : decode cX4_readTimes 59 = .ok (.getfield 9, 3) := by decide +kernel
theorem dX4_readTimes_62 : decode cX4_readTimes 62 = .ok (.iload_n 1, 1) := by decide +kernel
theorem dX4_readTimes_63 : decode cX4_readTimes 63 = .ok (.iload_n 2, 1) := by decide +kernel
theorem dX4_readTimes_64 : decode cX4_readTimes 64 = .ok (.invokevirtual 49, 3) := by decide +kernel
theorem dX4_readTimes_67 : decode cX4_readTimes 67 = .ok (.invokevirtual 52, 3) := by decide +kernel
theorem dX4_readTimes_70 : decode cX4_readTimes 70 = .ok (.iinc 2 1, 3) := by decide +kernel
theorem dX4_readTimes_73 : decode cX4_readTimes 73 = .ok (.goto (-71), 3) := by decide +kernel
theorem dX4_readTimes_76 : decode cX4_readTimes 76 = .ok (.return_, 1) := by decide +kernel
theorem dX4_place_0 : decode cX4_place 0 = .ok (.aload_n 0, 1) := by decide +kernel
theorem dX4_place_1 : decode cX4_place 1 = .ok (.getfield 20, 3) := by decide +kernel
theorem dX4_place_4 : decode cX4_place 4 = .ok (.iload_n 1, 1) := by decide +kernel
theorem dX4_place_5 : decode cX4_place 5 = .ok (.iconst 0, 1) := by decide +kernel
theorem dX4_place_6 : decode cX4_place 6 = .ok (.invokevirtual 46, 3) := by decide +kernel
theorem dX4_place_9 : decode cX4_place 9 = .ok (.istore_n 2, 1) := by decide +kernel
theorem dX4_place_10 : decode cX4_place 10 = .ok (.iload_n 2, 1) := by decide +kernel
theorem dX4_place_11 : decode cX4_place 11 = .ok (.bipush (-5), 2) := by decide +kernel
theorem dX4_place_13 : decode cX4_place 13 = .ok (.if_icmp .ne 6, 3) := by decide +kernel
theorem dX4_place_16 : decode cX4_place 16 = .ok (.bipush (-5), 2) := by decide +kernel
theorem dX4_place_18 : decode cX4_place 18 = .ok (.ireturn, 1) := by decide +kernel
theorem dX4_place_19 : decode cX4_place 19 = .ok (.iconst 1, 1) := by decide +kernel
theorem dX4_place_20 : decode cX4_place 20 = .ok (.istore_n 3, 1) := by decide +kernel
theorem dX4_place_21 : decode cX4_place 21 = .ok (.iconst 0, 1) := by decide +kernel
theorem dX4_place_22 : decode cX4_place 22 = .ok (.istore 4, 2) := by decide +kernel
theorem dX4_place_24 : decode cX4_place 24 = .ok (.iload 4, 2) := by decide +kernel
theorem dX4_place_26 : decode cX4_place 26 = .ok (.aload_n 0, 1) := by decide +kernel
theorem dX4_place_27 : decode cX4_place 27 = .ok (.getfield 9, 3) := by decide +kernel
theorem dX4_place_30 : decode cX4_place 30 = .ok (.getfield 33, 3) := by decide +kernel
theorem dX4_place_33 : decode cX4_place 33 = .ok (.if_icmp .ge 37, 3) := by decide +kernel
theorem dX4_place_36 : decode cX4_place 36 = .ok (.aload_n 0, 1) := by decide +kernel
theorem dX4_place_37 : decode cX4_place 37 = .ok (.getfield 20, 3) := by decide +kernel
theorem dX4_place_40 : decode cX4_place 40 = .ok (.iload 4, 2) := by decide +kernel
theorem dX4_place_42 : decode cX4_place 42 = .ok (.iconst 0, 1) := by decide +kernel
theorem dX4_place_43 : decode cX4_place 43 = .ok (.invokevirtual 46, 3) := by decide +kernel
theorem dX4_place_46 : decode cX4_place 46 = .ok (.istore 5, 2) := by decide +kernel
theorem dX4_place_48 : decode cX4_place 48 = .ok (.iload 5, 2) := by decide +kernel
theorem dX4_place_50 : decode cX4_place 50 = .ok (.bipush (-5), 2) := by decide +kernel
theorem dX4_place_52 : decode cX4_place 52 = .ok (.if_icmp .eq 12, 3) := by decide +kernel
theorem dX4_place_55 : decode cX4_place 55 = .ok (.iload 5, 2) := by decide +kernel
theorem dX4_place_57 : decode cX4_place 57 = .ok (.iload_n 2, 1) := by decide +kernel
theorem dX4_place_58 : decode cX4_place 58 = .ok (.if_icmp .ge 6, 3) := by decide +kernel
theorem dX4_place_61 : decode cX4_place 61 = .ok (.iinc 3 1, 3) := by decide +kernel
theorem dX4_place_64 : decode cX4_place 64 = .ok (.iinc 4 1, 3) := by decide +kernel
theorem dX4_place_67 : decode cX4_place 67 = .ok (.goto (-43), 3) := by decide +kernel
theorem dX4_place_70 : decode cX4_place 70 = .ok (.iload_n 3, 1) := by decide +kernel
theorem dX4_place_71 : decode cX4_place 71 = .ok (.ireturn, 1) := by decide +kernel
theorem dX4_pointsFor_0 : decode cX4_pointsFor 0 = .ok (.aload_n 0, 1) := by decide +kernel
theorem dX4_pointsFor_1 : decode cX4_pointsFor 1 = .ok (.getfield 9, 3) := by decide +kernel
theorem dX4_pointsFor_4 : decode cX4_pointsFor 4 = .ok (.getfield 39, 3) := by decide +kernel
theorem dX4_pointsFor_7 : decode cX4_pointsFor 7 = .ok (.aload_n 0, 1) := by decide +kernel
theorem dX4_pointsFor_8 : decode cX4_pointsFor 8 = .ok (.getfield 9, 3) := by decide +kernel
theorem dX4_pointsFor_11 : decode cX4_pointsFor 11 = .ok (.iload_n 1, 1) := by decide +kernel
theorem dX4_pointsFor_12 : decode cX4_pointsFor 12 = .ok (.iload_n 2, 1) := by decide +kernel
theorem dX4_pointsFor_13 : decode cX4_pointsFor 13 = .ok (.invokevirtual 42, 3) := by decide +kernel
theorem dX4_pointsFor_16 : decode cX4_pointsFor 16 = .ok (.iconst 4, 1) := by decide +kernel
theorem dX4_pointsFor_17 : decode cX4_pointsFor 17 = .ok (.invokevirtual 46, 3) := by decide +kernel
theorem dX4_pointsFor_20 : decode cX4_pointsFor 20 = .ok (.iconst 1, 1) := by decide +kernel
theorem dX4_pointsFor_21 : decode cX4_pointsFor 21 = .ok (.if_icmp .ne 13, 3) := by decide +kernel
theorem dX4_pointsFor_24 : decode cX4_pointsFor 24 = .ok (.aload_n 0, 1) := by decide +kernel
theorem dX4_pointsFor_25 : decode cX4_pointsFor 25 = .ok (.getfield 9, 3) := by decide +kernel
theorem dX4_pointsFor_28 : decode cX4_pointsFor 28 = .ok (.getfield 33, 3) := by decide +kernel
theorem dX4_pointsFor_31 : decode cX4_pointsFor 31 = .ok (.iconst 2, 1) := by decide +kernel
theorem dX4_pointsFor_32 : decode cX4_pointsFor 32 = .ok (.iadd, 1) := by decide +kernel
theorem dX4_pointsFor_33 : decode cX4_pointsFor 33 = .ok (.ireturn, 1) := by decide +kernel
theorem dX4_pointsFor_34 : decode cX4_pointsFor 34 = .ok (.iload_n 3, 1) := by decide +kernel
theorem dX4_pointsFor_35 : decode cX4_pointsFor 35 = .ok (.bipush (-5), 2) := by decide +kernel
theorem dX4_pointsFor_37 : decode cX4_pointsFor 37 = .ok (.if_icmp .ne 15, 3) := by decide +kernel
theorem dX4_pointsFor_40 : decode cX4_pointsFor 40 = .ok (.aload_n 0, 1) := by decide +kernel
theorem dX4_pointsFor_41 : decode cX4_pointsFor 41 = .ok (.getfield 9, 3) := by decide +kernel
theorem dX4_pointsFor_44 : decode cX4_pointsFor 44 = .ok (.getfield 33, 3) := by decide +kernel
theorem dX4_pointsFor_47 : decode cX4_pointsFor 47 = .ok (.iconst 1, 1) := by decide +kernel
theorem dX4_pointsFor_48 : decode cX4_pointsFor 48 = .ok (.iadd, 1) := by decide +kernel
theorem dX4_pointsFor_49 : decode cX4_pointsFor 49 = .ok (.goto 4, 3) := by decide +kernel
theorem dX4_pointsFor_52 : decode cX4_pointsFor 52 = .ok (.iload_n 3, 1) := by decide +kernel
theorem dX4_pointsFor_53 : decode cX4_pointsFor 53 = .ok (.ireturn, 1) := by decide +kernel
theorem dX4_placeIn_0 : decode cX4_placeIn 0 = .ok (.aload_n 0, 1) := by decide +kernel
theorem dX4_placeIn_1 : decode cX4_placeIn 1 = .ok (.iload_n 1, 1) := by decide +kernel
theorem dX4_placeIn_2 : decode cX4_placeIn 2 = .ok (.invokevirtual 56, 3) := by decide +kernel
theorem dX4_placeIn_5 : decode cX4_placeIn 5 = .ok (.aload_n 0, 1) := by decide +kernel
theorem dX4_placeIn_6 : decode cX4_placeIn 6 = .ok (.iload_n 2, 1) := by decide +kernel
theorem dX4_placeIn_7 : decode cX4_placeIn 7 = .ok (.invokevirtual 60, 3) := by decide +kernel
theorem dX4_placeIn_10 : decode cX4_placeIn 10 = .ok (.ireturn, 1) := by decide +kernel
theorem dX4_pointsIn_0 : decode cX4_pointsIn 0 = .ok (.aload_n 0, 1) := by decide +kernel
theorem dX4_pointsIn_1 : decode cX4_pointsIn 1 = .ok (.iload_n 1, 1) := by decide +kernel
theorem dX4_pointsIn_2 : decode cX4_pointsIn 2 = .ok (.iload_n 2, 1) := by decide +kernel
theorem dX4_pointsIn_3 : decode cX4_pointsIn 3 = .ok (.aload_n 0, 1) := by decide +kernel
theorem dX4_pointsIn_4 : decode cX4_pointsIn 4 = .ok (.iload_n 1, 1) := by decide +kernel
theorem dX4_pointsIn_5 : decode cX4_pointsIn 5 = .ok (.iload_n 2, 1) := by decide +kernel
theorem dX4_pointsIn_6 : decode cX4_pointsIn 6 = .ok (.invokevirtual 64, 3) := by decide +kernel
theorem dX4_pointsIn_9 : decode cX4_pointsIn 9 = .ok (.invokevirtual 67, 3) := by decide +kernel
theorem dX4_pointsIn_12 : decode cX4_pointsIn 12 = .ok (.ireturn, 1) := by decide +kernel
theorem dX4_leader_0 : decode cX4_leader 0 = .ok (.aload_n 0, 1) := by decide +kernel
theorem dX4_leader_1 : decode cX4_leader 1 = .ok (.iload_n 1, 1) := by decide +kernel
theorem dX4_leader_2 : decode cX4_leader 2 = .ok (.invokevirtual 56, 3) := by decide +kernel
theorem dX4_leader_5 : decode cX4_leader 5 = .ok (.iconst 0, 1) := by decide +kernel
theorem dX4_leader_6 : decode cX4_leader 6 = .ok (.istore_n 2, 1) := by decide +kernel
theorem dX4_leader_7 : decode cX4_leader 7 = .ok (.iload_n 2, 1) := by decide +kernel
theorem dX4_leader_8 : decode cX4_leader 8 = .ok (.aload_n 0, 1) := by decide +kernel
theorem dX4_leader_9 : decode cX4_leader 9 = .ok (.getfield 9, 3) := by decide +kernel
theorem dX4_leader_12 : decode cX4_leader 12 = .ok (.getfield 33, 3) := by decide +kernel
theorem dX4_leader_15 : decode cX4_leader 15 = .ok (.if_icmp .ge 20, 3) := by decide +kernel
theorem dX4_leader_18 : decode cX4_leader 18 = .ok (.aload_n 0, 1) := by decide +kernel
theorem dX4_leader_19 : decode cX4_leader 19 = .ok (.iload_n 2, 1) := by decide +kernel
theorem dX4_leader_20 : decode cX4_leader 20 = .ok (.invokevirtual 60, 3) := by decide +kernel
theorem dX4_leader_23 : decode cX4_leader 23 = .ok (.iconst 1, 1) := by decide +kernel
theorem dX4_leader_24 : decode cX4_leader 24 = .ok (.if_icmp .ne 5, 3) := by decide +kernel
theorem dX4_leader_27 : decode cX4_leader 27 = .ok (.iload_n 2, 1) := by decide +kernel
theorem dX4_leader_28 : decode cX4_leader 28 = .ok (.ireturn, 1) := by decide +kernel
theorem dX4_leader_29 : decode cX4_leader 29 = .ok (.iinc 2 1, 3) := by decide +kernel
theorem dX4_leader_32 : decode cX4_leader 32 = .ok (.goto (-25), 3) := by decide +kernel
theorem dX4_leader_35 : decode cX4_leader 35 = .ok (.bipush (-5), 2) := by decide +kernel
theorem dX4_leader_37 : decode cX4_leader 37 = .ok (.ireturn, 1) := by decide +kernel
theorem dX4_secondsToLead_0 : decode cX4_secondsToLead 0 = .ok (.aload_n 0, 1) := by decide +kernel
theorem dX4_secondsToLead_1 : decode cX4_secondsToLead 1 = .ok (.getfield 9, 3) := by decide +kernel
theorem dX4_secondsToLead_4 : decode cX4_secondsToLead 4 = .ok (.invokevirtual 71, 3) := by decide +kernel
theorem dX4_secondsToLead_7 : decode cX4_secondsToLead 7 = .ok (.istore_n 2, 1) := by decide +kernel
theorem dX4_secondsToLead_8 : decode cX4_secondsToLead 8 = .ok (.aload_n 0, 1) := by decide +kernel
theorem dX4_secondsToLead_9 : decode cX4_secondsToLead 9 = .ok (.iload_n 2, 1) := by decide +kernel
theorem dX4_secondsToLead_10 : decode cX4_secondsToLead 10 = .ok (.invokevirtual 75, 3) := by decide +kernel
theorem dX4_secondsToLead_13 : decode cX4_secondsToLead 13 = .ok (.istore_n 3, 1) := by decide +kernel
theorem dX4_secondsToLead_14 : decode cX4_secondsToLead 14 = .ok (.iload_n 3, 1) := by decide +kernel
theorem dX4_secondsToLead_15 : decode cX4_secondsToLead 15 = .ok (.bipush (-5), 2) := by decide +kernel
theorem dX4_secondsToLead_17 : decode cX4_secondsToLead 17 = .ok (.if_icmp .ne 6, 3) := by decide +kernel
theorem dX4_secondsToLead_20 : decode cX4_secondsToLead 20 = .ok (.bipush (-5), 2) := by decide +kernel
theorem dX4_secondsToLead_22 : decode cX4_secondsToLead 22 = .ok (.ireturn, 1) := by decide +kernel
theorem dX4_secondsToLead_23 : decode cX4_secondsToLead 23 = .ok (.aload_n 0, 1) := by decide +kernel
theorem dX4_secondsToLead_24 : decode cX4_secondsToLead 24 = .ok (.getfield 20, 3) := by decide +kernel
theorem dX4_secondsToLead_27 : decode cX4_secondsToLead 27 = .ok (.iload_n 3, 1) := by decide +kernel
theorem dX4_secondsToLead_28 : decode cX4_secondsToLead 28 = .ok (.iconst 0, 1) := by decide +kernel
theorem dX4_secondsToLead_29 : decode cX4_secondsToLead 29 = .ok (.invokevirtual 46, 3) := by decide +kernel
theorem dX4_secondsToLead_32 : decode cX4_secondsToLead 32 = .ok (.aload_n 0, 1) := by decide +kernel
theorem dX4_secondsToLead_33 : decode cX4_secondsToLead 33 = .ok (.getfield 9, 3) := by decide +kernel
theorem dX4_secondsToLead_36 : decode cX4_secondsToLead 36 = .ok (.getfield 78, 3) := by decide +kernel
theorem dX4_secondsToLead_39 : decode cX4_secondsToLead 39 = .ok (.iload_n 1, 1) := by decide +kernel
theorem dX4_secondsToLead_40 : decode cX4_secondsToLead 40 = .ok (.iconst 0, 1) := by decide +kernel
theorem dX4_secondsToLead_41 : decode cX4_secondsToLead 41 = .ok (.invokevirtual 46, 3) := by decide +kernel
theorem dX4_secondsToLead_44 : decode cX4_secondsToLead 44 = .ok (.imul, 1) := by decide +kernel
theorem dX4_secondsToLead_45 : decode cX4_secondsToLead 45 = .ok (.istore 4, 2) := by decide +kernel
theorem dX4_secondsToLead_47 : decode cX4_secondsToLead 47 = .ok (.iload 4, 2) := by decide +kernel
theorem dX4_secondsToLead_49 : decode cX4_secondsToLead 49 = .ok (.iconst 1, 1) := by decide +kernel
theorem dX4_secondsToLead_50 : decode cX4_secondsToLead 50 = .ok (.isub, 1) := by decide +kernel
theorem dX4_secondsToLead_51 : decode cX4_secondsToLead 51 = .ok (.bipush 100, 2) := by decide +kernel
theorem dX4_secondsToLead_53 : decode cX4_secondsToLead 53 = .ok (.invokestatic 81, 3) := by decide +kernel
theorem dX4_secondsToLead_56 : decode cX4_secondsToLead 56 = .ok (.istore 5, 2) := by decide +kernel
theorem dX4_secondsToLead_58 : decode cX4_secondsToLead 58 = .ok (.iload 5, 2) := by decide +kernel
theorem dX4_secondsToLead_60 : decode cX4_secondsToLead 60 = .ok (.aload_n 0, 1) := by decide +kernel
theorem dX4_secondsToLead_61 : decode cX4_secondsToLead 61 = .ok (.getfield 9, 3) := by decide +kernel
theorem dX4_secondsToLead_64 : decode cX4_secondsToLead 64 = .ok (.aload_n 0, 1) := by decide +kernel
theorem dX4_secondsToLead_65 : decode cX4_secondsToLead 65 = .ok (.getfield 9, 3) := by decide +kernel
theorem dX4_secondsToLead_68 : decode cX4_secondsToLead 68 = .ok (.getfield 86, 3) := by decide +kernel
theorem dX4_secondsToLead_71 : decode cX4_secondsToLead 71 = .ok (.iload_n 2, 1) := by decide +kernel
theorem dX4_secondsToLead_72 : decode cX4_secondsToLead 72 = .ok (.iload_n 1, 1) := by decide +kernel
theorem dX4_secondsToLead_73 : decode cX4_secondsToLead 73 = .ok (.invokevirtual 89, 3) := by decide +kernel
theorem dX4_secondsToLead_76 : decode cX4_secondsToLead 76 = .ok (.isub, 1) := by decide +kernel
theorem dX4_secondsToLead_77 : decode cX4_secondsToLead 77 = .ok (.istore 6, 2) := by decide +kernel
theorem dX4_secondsToLead_79 : decode cX4_secondsToLead 79 = .ok (.iload 6, 2) := by decide +kernel
theorem dX4_secondsToLead_81 : decode cX4_secondsToLead 81 = .ok (.ifCond .ge 8, 3) := by decide +kernel
theorem dX4_secondsToLead_84 : decode cX4_secondsToLead 84 = .ok (.bipush (-5), 2) := by decide +kernel
theorem dX4_secondsToLead_86 : decode cX4_secondsToLead 86 = .ok (.goto 5, 3) := by decide +kernel
theorem dX4_secondsToLead_89 : decode cX4_secondsToLead 89 = .ok (.iload 6, 2) := by decide +kernel
theorem dX4_secondsToLead_91 : decode cX4_secondsToLead 91 = .ok (.ireturn, 1) := by decide +kernel
theorem dX4_recount_0 : decode cX4_recount 0 = .ok (.iconst 0, 1) := by decide +kernel
theorem dX4_recount_1 : decode cX4_recount 1 = .ok (.istore_n 1, 1) := by decide +kernel
theorem dX4_recount_2 : decode cX4_recount 2 = .ok (.iload_n 1, 1) := by decide +kernel
theorem dX4_recount_3 : decode cX4_recount 3 = .ok (.aload_n 0, 1) := by decide +kernel
theorem dX4_recount_4 : decode cX4_recount 4 = .ok (.getfield 9, 3) := by decide +kernel
theorem dX4_recount_7 : decode cX4_recount 7 = .ok (.getfield 33, 3) := by decide +kernel
theorem dX4_recount_10 : decode cX4_recount 10 = .ok (.if_icmp .ge 17, 3) := by decide +kernel
theorem dX4_recount_13 : decode cX4_recount 13 = .ok (.aload_n 0, 1) := by decide +kernel
theorem dX4_recount_14 : decode cX4_recount 14 = .ok (.getfield 30, 3) := by decide +kernel
theorem dX4_recount_17 : decode cX4_recount 17 = .ok (.iload_n 1, 1) := by decide +kernel
theorem dX4_recount_18 : decode cX4_recount 18 = .ok (.invokevirtual 92, 3) := by decide +kernel
theorem dX4_recount_21 : decode cX4_recount 21 = .ok (.iinc 1 1, 3) := by decide +kernel
theorem dX4_recount_24 : decode cX4_recount 24 = .ok (.goto (-22), 3) := by decide +kernel
theorem dX4_recount_27 : decode cX4_recount 27 = .ok (.iconst 0, 1) := by decide +kernel
theorem dX4_recount_28 : decode cX4_recount 28 = .ok (.istore_n 1, 1) := by decide +kernel
theorem dX4_recount_29 : decode cX4_recount 29 = .ok (.iload_n 1, 1) := by decide +kernel
theorem dX4_recount_30 : decode cX4_recount 30 = .ok (.aload_n 0, 1) := by decide +kernel
theorem dX4_recount_31 : decode cX4_recount 31 = .ok (.getfield 9, 3) := by decide +kernel
theorem dX4_recount_34 : decode cX4_recount 34 = .ok (.invokevirtual 95, 3) := by decide +kernel
theorem dX4_recount_37 : decode cX4_recount 37 = .ok (.if_icmp .ge 14, 3) := by decide +kernel
theorem dX4_recount_40 : decode cX4_recount 40 = .ok (.aload_n 0, 1) := by decide +kernel
theorem dX4_recount_41 : decode cX4_recount 41 = .ok (.iload_n 1, 1) := by decide +kernel
theorem dX4_recount_42 : decode cX4_recount 42 = .ok (.invokevirtual 98, 3) := by decide +kernel
theorem dX4_recount_45 : decode cX4_recount 45 = .ok (.iinc 1 1, 3) := by decide +kernel
theorem dX4_recount_48 : decode cX4_recount 48 = .ok (.goto (-19), 3) := by decide +kernel
theorem dX4_recount_51 : decode cX4_recount 51 = .ok (.iconst 0, 1) := by decide +kernel
theorem dX4_recount_52 : decode cX4_recount 52 = .ok (.istore_n 1, 1) := by decide +kernel
theorem dX4_recount_53 : decode cX4_recount 53 = .ok (.iload_n 1, 1) := by decide +kernel
theorem dX4_recount_54 : decode cX4_recount 54 = .ok (.aload_n 0, 1) := by decide +kernel
theorem dX4_recount_55 : decode cX4_recount 55 = .ok (.getfield 9, 3) := by decide +kernel
theorem dX4_recount_58 : decode cX4_recount 58 = .ok (.getfield 33, 3) := by decide +kernel
theorem dX4_recount_61 : decode cX4_recount 61 = .ok (.if_icmp .ge 14, 3) := by decide +kernel
theorem dX4_recount_64 : decode cX4_recount 64 = .ok (.aload_n 0, 1) := by decide +kernel
theorem dX4_recount_65 : decode cX4_recount 65 = .ok (.iload_n 1, 1) := by decide +kernel
theorem dX4_recount_66 : decode cX4_recount 66 = .ok (.invokevirtual 101, 3) := by decide +kernel
theorem dX4_recount_69 : decode cX4_recount 69 = .ok (.iinc 1 1, 3) := by decide +kernel
theorem dX4_recount_72 : decode cX4_recount 72 = .ok (.goto (-19), 3) := by decide +kernel
theorem dX4_recount_75 : decode cX4_recount 75 = .ok (.return_, 1) := by decide +kernel
theorem dX4_recountRace_0 : decode cX4_recountRace 0 = .ok (.aload_n 0, 1) := by decide +kernel
theorem dX4_recountRace_1 : decode cX4_recountRace 1 = .ok (.iload_n 1, 1) := by decide +kernel
theorem dX4_recountRace_2 : decode cX4_recountRace 2 = .ok (.invokevirtual 56, 3) := by decide +kernel
theorem dX4_recountRace_5 : decode cX4_recountRace 5 = .ok (.iconst 0, 1) := by decide +kernel
theorem dX4_recountRace_6 : decode cX4_recountRace 6 = .ok (.istore_n 2, 1) := by decide +kernel
theorem dX4_recountRace_7 : decode cX4_recountRace 7 = .ok (.iload_n 2, 1) := by decide +kernel
theorem dX4_recountRace_8 : decode cX4_recountRace 8 = .ok (.aload_n 0, 1) := by decide +kernel
theorem dX4_recountRace_9 : decode cX4_recountRace 9 = .ok (.getfield 9, 3) := by decide +kernel
theorem dX4_recountRace_12 : decode cX4_recountRace 12 = .ok (.getfield 33, 3) := by decide +kernel
theorem dX4_recountRace_15 : decode cX4_recountRace 15 = .ok (.if_icmp .ge 47, 3) := by decide +kernel
theorem dX4_recountRace_18 : decode cX4_recountRace 18 = .ok (.aload_n 0, 1) := by decide +kernel
theorem dX4_recountRace_19 : decode cX4_recountRace 19 = .ok (.iload_n 2, 1) := by decide +kernel
theorem dX4_recountRace_20 : decode cX4_recountRace 20 = .ok (.invokevirtual 60, 3) := by decide +kernel
theorem dX4_recountRace_23 : decode cX4_recountRace 23 = .ok (.istore_n 3, 1) := by decide +kernel
theorem dX4_recountRace_24 : decode cX4_recountRace 24 = .ok (.aload_n 0, 1) := by decide +kernel
theorem dX4_recountRace_25 : decode cX4_recountRace 25 = .ok (.getfield 24, 3) := by decide +kernel
theorem dX4_recountRace_28 : decode cX4_recountRace 28 = .ok (.iload_n 1, 1) := by decide +kernel
theorem dX4_recountRace_29 : decode cX4_recountRace 29 = .ok (.iload_n 2, 1) := by decide +kernel
theorem dX4_recountRace_30 : decode cX4_recountRace 30 = .ok (.aload_n 0, 1) := by decide +kernel
theorem dX4_recountRace_31 : decode cX4_recountRace 31 = .ok (.iload_n 1, 1) := by decide +kernel
theorem dX4_recountRace_32 : decode cX4_recountRace 32 = .ok (.iload_n 2, 1) := by decide +kernel
theorem dX4_recountRace_33 : decode cX4_recountRace 33 = .ok (.iload_n 3, 1) := by decide +kernel
theorem dX4_recountRace_34 : decode cX4_recountRace 34 = .ok (.invokevirtual 67, 3) := by decide +kernel
theorem dX4_recountRace_37 : decode cX4_recountRace 37 = .ok (.invokevirtual 52, 3) := by decide +kernel
theorem dX4_recountRace_40 : decode cX4_recountRace 40 = .ok (.iload_n 3, 1) := by decide +kernel
theorem dX4_recountRace_41 : decode cX4_recountRace 41 = .ok (.bipush (-5), 2) := by decide +kernel
theorem dX4_recountRace_43 : decode cX4_recountRace 43 = .ok (.if_icmp .eq 13, 3) := by decide +kernel
theorem dX4_recountRace_46 : decode cX4_recountRace 46 = .ok (.aload_n 0, 1) := by decide +kernel
