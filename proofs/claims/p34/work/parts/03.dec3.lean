theorem dL_finishes_247 : decode cL_finishes 247 = .ok (.invokevirtual 16, 3) := by decide +kernel
theorem dL_finishes_250 : decode cL_finishes 250 = .ok (.irem, 1) := by decide +kernel
theorem dL_finishes_251 : decode cL_finishes 251 = .ok (.invokevirtual 50, 3) := by decide +kernel
theorem dL_finishes_254 : decode cL_finishes 254 = .ok (.istore 9, 2) := by decide +kernel
theorem dL_finishes_256 : decode cL_finishes 256 = .ok (.goto (-33), 3) := by decide +kernel
theorem dL_finishes_259 : decode cL_finishes 259 = .ok (.aload_n 0, 1) := by decide +kernel
theorem dL_finishes_260 : decode cL_finishes 260 = .ok (.iload_n 2, 1) := by decide +kernel
theorem dL_finishes_261 : decode cL_finishes 261 = .ok (.iconst 1, 1) := by decide +kernel
theorem dL_finishes_262 : decode cL_finishes 262 = .ok (.iadd, 1) := by decide +kernel
theorem dL_finishes_263 : decode cL_finishes 263 = .ok (.invokestatic 53, 3) := by decide +kernel
theorem dL_finishes_266 : decode cL_finishes 266 = .ok (.ifCond .eq 38, 3) := by decide +kernel
theorem dL_finishes_269 : decode cL_finishes 269 = .ok (.aload_n 0, 1) := by decide +kernel
theorem dL_finishes_270 : decode cL_finishes 270 = .ok (.iload_n 1, 1) := by decide +kernel
theorem dL_finishes_271 : decode cL_finishes 271 = .ok (.invokevirtual 57, 3) := by decide +kernel
theorem dL_finishes_274 : decode cL_finishes 274 = .ok (.iconst 3, 1) := by decide +kernel
theorem dL_finishes_275 : decode cL_finishes 275 = .ok (.if_icmp .ne 29, 3) := by decide +kernel
theorem dL_finishes_278 : decode cL_finishes 278 = .ok (.aload_n 0, 1) := by decide +kernel
theorem dL_finishes_279 : decode cL_finishes 279 = .ok (.iload_n 3, 1) := by decide +kernel
theorem dL_finishes_280 : decode cL_finishes 280 = .ok (.iload_n 1, 1) := by decide +kernel
theorem dL_finishes_281 : decode cL_finishes 281 = .ok (.bipush 6, 2) := by decide +kernel
theorem dL_finishes_283 : decode cL_finishes 283 = .ok (.invokevirtual 10, 3) := by decide +kernel
theorem dL_finishes_286 : decode cL_finishes 286 = .ok (.iload 7, 2) := by decide +kernel
theorem dL_finishes_288 : decode cL_finishes 288 = .ok (.if_icmp .lt 16, 3) := by decide +kernel
theorem dL_finishes_291 : decode cL_finishes 291 = .ok (.aload_n 0, 1) := by decide +kernel
theorem dL_finishes_292 : decode cL_finishes 292 = .ok (.invokevirtual 60, 3) := by decide +kernel
theorem dL_finishes_295 : decode cL_finishes 295 = .ok (.iload 4, 2) := by decide +kernel
theorem dL_finishes_297 : decode cL_finishes 297 = .ok (.if_icmp .ne 7, 3) := by decide +kernel
theorem dL_finishes_300 : decode cL_finishes 300 = .ok (.iconst 1, 1) := by decide +kernel
theorem dL_finishes_301 : decode cL_finishes 301 = .ok (.goto 4, 3) := by decide +kernel
theorem dL_finishes_304 : decode cL_finishes 304 = .ok (.iconst 0, 1) := by decide +kernel
theorem dL_finishes_305 : decode cL_finishes 305 = .ok (.ireturn, 1) := by decide +kernel
theorem dL_waits_0 : decode cL_waits 0 = .ok (.iload_n 1, 1) := by decide +kernel
theorem dL_waits_1 : decode cL_waits 1 = .ok (.istore_n 2, 1) := by decide +kernel
theorem dL_waits_2 : decode cL_waits 2 = .ok (.aload_n 0, 1) := by decide +kernel
theorem dL_waits_3 : decode cL_waits 3 = .ok (.iconst 3, 1) := by decide +kernel
theorem dL_waits_4 : decode cL_waits 4 = .ok (.invokevirtual 20, 3) := by decide +kernel
theorem dL_waits_7 : decode cL_waits 7 = .ok (.iload_n 1, 1) := by decide +kernel
theorem dL_waits_8 : decode cL_waits 8 = .ok (.iadd, 1) := by decide +kernel
theorem dL_waits_9 : decode cL_waits 9 = .ok (.istore_n 3, 1) := by decide +kernel
theorem dL_waits_10 : decode cL_waits 10 = .ok (.iconst 1, 1) := by decide +kernel
theorem dL_waits_11 : decode cL_waits 11 = .ok (.istore 4, 2) := by decide +kernel
theorem dL_waits_13 : decode cL_waits 13 = .ok (.iload_n 2, 1) := by decide +kernel
theorem dL_waits_14 : decode cL_waits 14 = .ok (.ifCond .le 48, 3) := by decide +kernel
theorem dL_waits_17 : decode cL_waits 17 = .ok (.iload 4, 2) := by decide +kernel
theorem dL_waits_19 : decode cL_waits 19 = .ok (.ifCond .eq 43, 3) := by decide +kernel
theorem dL_waits_22 : decode cL_waits 22 = .ok (.iload_n 2, 1) := by decide +kernel
theorem dL_waits_23 : decode cL_waits 23 = .ok (.sipush 9999, 3) := by decide +kernel
theorem dL_waits_26 : decode cL_waits 26 = .ok (.if_icmp .le 9, 3) := by decide +kernel
theorem dL_waits_29 : decode cL_waits 29 = .ok (.sipush 9999, 3) := by decide +kernel
theorem dL_waits_32 : decode cL_waits 32 = .ok (.goto 4, 3) := by decide +kernel
theorem dL_waits_35 : decode cL_waits 35 = .ok (.iload_n 2, 1) := by decide +kernel
theorem dL_waits_36 : decode cL_waits 36 = .ok (.istore 5, 2) := by decide +kernel
theorem dL_waits_38 : decode cL_waits 38 = .ok (.aload_n 0, 1) := by decide +kernel
theorem dL_waits_39 : decode cL_waits 39 = .ok (.iload 5, 2) := by decide +kernel
theorem dL_waits_41 : decode cL_waits 41 = .ok (.invokevirtual 63, 3) := by decide +kernel
theorem dL_waits_44 : decode cL_waits 44 = .ok (.ifCond .lt 7, 3) := by decide +kernel
theorem dL_waits_47 : decode cL_waits 47 = .ok (.iconst 1, 1) := by decide +kernel
theorem dL_waits_48 : decode cL_waits 48 = .ok (.goto 4, 3) := by decide +kernel
theorem dL_waits_51 : decode cL_waits 51 = .ok (.iconst 0, 1) := by decide +kernel
theorem dL_waits_52 : decode cL_waits 52 = .ok (.istore 4, 2) := by decide +kernel
theorem dL_waits_54 : decode cL_waits 54 = .ok (.iload_n 2, 1) := by decide +kernel
theorem dL_waits_55 : decode cL_waits 55 = .ok (.iload 5, 2) := by decide +kernel
theorem dL_waits_57 : decode cL_waits 57 = .ok (.isub, 1) := by decide +kernel
theorem dL_waits_58 : decode cL_waits 58 = .ok (.istore_n 2, 1) := by decide +kernel
theorem dL_waits_59 : decode cL_waits 59 = .ok (.goto (-46), 3) := by decide +kernel
theorem dL_waits_62 : decode cL_waits 62 = .ok (.iload 4, 2) := by decide +kernel
theorem dL_waits_64 : decode cL_waits 64 = .ok (.ifCond .eq 16, 3) := by decide +kernel
theorem dL_waits_67 : decode cL_waits 67 = .ok (.aload_n 0, 1) := by decide +kernel
theorem dL_waits_68 : decode cL_waits 68 = .ok (.iconst 3, 1) := by decide +kernel
theorem dL_waits_69 : decode cL_waits 69 = .ok (.invokevirtual 20, 3) := by decide +kernel
theorem dL_waits_72 : decode cL_waits 72 = .ok (.iload_n 3, 1) := by decide +kernel
theorem dL_waits_73 : decode cL_waits 73 = .ok (.if_icmp .ne 7, 3) := by decide +kernel
theorem dL_waits_76 : decode cL_waits 76 = .ok (.iconst 1, 1) := by decide +kernel
theorem dL_waits_77 : decode cL_waits 77 = .ok (.goto 4, 3) := by decide +kernel
theorem dL_waits_80 : decode cL_waits 80 = .ok (.iconst 0, 1) := by decide +kernel
theorem dL_waits_81 : decode cL_waits 81 = .ok (.ireturn, 1) := by decide +kernel
theorem dL_closes_0 : decode cL_closes 0 = .ok (.aload_n 0, 1) := by decide +kernel
theorem dL_closes_1 : decode cL_closes 1 = .ok (.iconst 1, 1) := by decide +kernel
theorem dL_closes_2 : decode cL_closes 2 = .ok (.invokevirtual 20, 3) := by decide +kernel
theorem dL_closes_5 : decode cL_closes 5 = .ok (.iconst 1, 1) := by decide +kernel
theorem dL_closes_6 : decode cL_closes 6 = .ok (.isub, 1) := by decide +kernel
theorem dL_closes_7 : decode cL_closes 7 = .ok (.istore_n 1, 1) := by decide +kernel
theorem dL_closes_8 : decode cL_closes 8 = .ok (.aload_n 0, 1) := by decide +kernel
theorem dL_closes_9 : decode cL_closes 9 = .ok (.iconst 0, 1) := by decide +kernel
theorem dL_closes_10 : decode cL_closes 10 = .ok (.invokevirtual 20, 3) := by decide +kernel
theorem dL_closes_13 : decode cL_closes 13 = .ok (.istore_n 2, 1) := by decide +kernel
theorem dL_closes_14 : decode cL_closes 14 = .ok (.bipush 9, 2) := by decide +kernel
theorem dL_closes_16 : decode cL_closes 16 = .ok (.newarray .int, 2) := by decide +kernel
theorem dL_closes_18 : decode cL_closes 18 = .ok (.astore_n 3, 1) := by decide +kernel
theorem dL_closes_19 : decode cL_closes 19 = .ok (.iload_n 1, 1) := by decide +kernel
theorem dL_closes_20 : decode cL_closes 20 = .ok (.ifCond .ge 7, 3) := by decide +kernel
theorem dL_closes_23 : decode cL_closes 23 = .ok (.iconst 0, 1) := by decide +kernel
theorem dL_closes_24 : decode cL_closes 24 = .ok (.goto 9, 3) := by decide +kernel
theorem dL_closes_27 : decode cL_closes 27 = .ok (.aload_n 0, 1) := by decide +kernel
theorem dL_closes_28 : decode cL_closes 28 = .ok (.iload_n 1, 1) := by decide +kernel
theorem dL_closes_29 : decode cL_closes 29 = .ok (.iconst 4, 1) := by decide +kernel
theorem dL_closes_30 : decode cL_closes 30 = .ok (.invokevirtual 16, 3) := by decide +kernel
theorem dL_closes_33 : decode cL_closes 33 = .ok (.istore 4, 2) := by decide +kernel
theorem dL_closes_35 : decode cL_closes 35 = .ok (.aload_n 0, 1) := by decide +kernel
theorem dL_closes_36 : decode cL_closes 36 = .ok (.iconst 4, 1) := by decide +kernel
theorem dL_closes_37 : decode cL_closes 37 = .ok (.invokevirtual 20, 3) := by decide +kernel
theorem dL_closes_40 : decode cL_closes 40 = .ok (.iconst 1, 1) := by decide +kernel
theorem dL_closes_41 : decode cL_closes 41 = .ok (.if_icmp .ne 21, 3) := by decide +kernel
theorem dL_closes_44 : decode cL_closes 44 = .ok (.aload_n 0, 1) := by decide +kernel
theorem dL_closes_45 : decode cL_closes 45 = .ok (.iconst 3, 1) := by decide +kernel
theorem dL_closes_46 : decode cL_closes 46 = .ok (.invokevirtual 20, 3) := by decide +kernel
theorem dL_closes_49 : decode cL_closes 49 = .ok (.aload_n 0, 1) := by decide +kernel
theorem dL_closes_50 : decode cL_closes 50 = .ok (.iload_n 1, 1) := by decide +kernel
theorem dL_closes_51 : decode cL_closes 51 = .ok (.iconst 2, 1) := by decide +kernel
theorem dL_closes_52 : decode cL_closes 52 = .ok (.invokevirtual 16, 3) := by decide +kernel
theorem dL_closes_55 : decode cL_closes 55 = .ok (.if_icmp .lt 7, 3) := by decide +kernel
theorem dL_closes_58 : decode cL_closes 58 = .ok (.iconst 1, 1) := by decide +kernel
theorem dL_closes_59 : decode cL_closes 59 = .ok (.goto 4, 3) := by decide +kernel
theorem dL_closes_62 : decode cL_closes 62 = .ok (.iconst 0, 1) := by decide +kernel
theorem dL_closes_63 : decode cL_closes 63 = .ok (.istore 5, 2) := by decide +kernel
theorem dL_closes_65 : decode cL_closes 65 = .ok (.iconst 0, 1) := by decide +kernel
theorem dL_closes_66 : decode cL_closes 66 = .ok (.istore 6, 2) := by decide +kernel
theorem dL_closes_68 : decode cL_closes 68 = .ok (.iload 6, 2) := by decide +kernel
theorem dL_closes_70 : decode cL_closes 70 = .ok (.iload_n 2, 1) := by decide +kernel
theorem dL_closes_71 : decode cL_closes 71 = .ok (.if_icmp .ge 19, 3) := by decide +kernel
theorem dL_closes_74 : decode cL_closes 74 = .ok (.aload_n 3, 1) := by decide +kernel
theorem dL_closes_75 : decode cL_closes 75 = .ok (.iload 6, 2) := by decide +kernel
theorem dL_closes_77 : decode cL_closes 77 = .ok (.aload_n 0, 1) := by decide +kernel
theorem dL_closes_78 : decode cL_closes 78 = .ok (.iload 6, 2) := by decide +kernel
theorem dL_closes_80 : decode cL_closes 80 = .ok (.invokevirtual 66, 3) := by decide +kernel
theorem dL_closes_83 : decode cL_closes 83 = .ok (.iastore, 1) := by decide +kernel
theorem dL_closes_84 : decode cL_closes 84 = .ok (.iinc 6 1, 3) := by decide +kernel
theorem dL_closes_87 : decode cL_closes 87 = .ok (.goto (-19), 3) := by decide +kernel
theorem dL_closes_90 : decode cL_closes 90 = .ok (.aload_n 0, 1) := by decide +kernel
theorem dL_closes_91 : decode cL_closes 91 = .ok (.invokevirtual 69, 3) := by decide +kernel
theorem dL_closes_94 : decode cL_closes 94 = .ok (.istore 6, 2) := by decide +kernel
theorem dL_closes_96 : decode cL_closes 96 = .ok (.iload 5, 2) := by decide +kernel
theorem dL_closes_98 : decode cL_closes 98 = .ok (.ifCond .ne 16, 3) := by decide +kernel
theorem dL_closes_101 : decode cL_closes 101 = .ok (.iload 6, 2) := by decide +kernel
theorem dL_closes_103 : decode cL_closes 103 = .ok (.bipush (-4), 2) := by decide +kernel
theorem dL_closes_105 : decode cL_closes 105 = .ok (.if_icmp .ne 7, 3) := by decide +kernel
theorem dL_closes_108 : decode cL_closes 108 = .ok (.iconst 1, 1) := by decide +kernel
theorem dL_closes_109 : decode cL_closes 109 = .ok (.goto 4, 3) := by decide +kernel
theorem dL_closes_112 : decode cL_closes 112 = .ok (.iconst 0, 1) := by decide +kernel
theorem dL_closes_113 : decode cL_closes 113 = .ok (.ireturn, 1) := by decide +kernel
theorem dL_closes_114 : decode cL_closes 114 = .ok (.iconst 0, 1) := by decide +kernel
theorem dL_closes_115 : decode cL_closes 115 = .ok (.istore 7, 2) := by decide +kernel
theorem dL_closes_117 : decode cL_closes 117 = .ok (.iload 7, 2) := by decide +kernel
theorem dL_closes_119 : decode cL_closes 119 = .ok (.iload_n 2, 1) := by decide +kernel
theorem dL_closes_120 : decode cL_closes 120 = .ok (.if_icmp .ge 55, 3) := by decide +kernel
theorem dL_closes_123 : decode cL_closes 123 = .ok (.aload_n 0, 1) := by decide +kernel
theorem dL_closes_124 : decode cL_closes 124 = .ok (.iload_n 1, 1) := by decide +kernel
theorem dL_closes_125 : decode cL_closes 125 = .ok (.iload 7, 2) := by decide +kernel
theorem dL_closes_127 : decode cL_closes 127 = .ok (.bipush 7, 2) := by decide +kernel
theorem dL_closes_129 : decode cL_closes 129 = .ok (.invokevirtual 10, 3) := by decide +kernel
theorem dL_closes_132 : decode cL_closes 132 = .ok (.aload_n 3, 1) := by decide +kernel
theorem dL_closes_133 : decode cL_closes 133 = .ok (.iload 7, 2) := by decide +kernel
theorem dL_closes_135 : decode cL_closes 135 = .ok (.iaload, 1) := by decide +kernel
theorem dL_closes_136 : decode cL_closes 136 = .ok (.if_icmp .ne 31, 3) := by decide +kernel
theorem dL_closes_139 : decode cL_closes 139 = .ok (.aload_n 0, 1) := by decide +kernel
theorem dL_closes_140 : decode cL_closes 140 = .ok (.iload 7, 2) := by decide +kernel
theorem dL_closes_142 : decode cL_closes 142 = .ok (.invokevirtual 66, 3) := by decide +kernel
theorem dL_closes_145 : decode cL_closes 145 = .ok (.bipush (-4), 2) := by decide +kernel
theorem dL_closes_147 : decode cL_closes 147 = .ok (.if_icmp .ne 20, 3) := by decide +kernel
theorem dL_closes_150 : decode cL_closes 150 = .ok (.aload_n 0, 1) := by decide +kernel
theorem dL_closes_151 : decode cL_closes 151 = .ok (.iload 7, 2) := by decide +kernel
theorem dL_closes_153 : decode cL_closes 153 = .ok (.iload_n 1, 1) := by decide +kernel
theorem dL_closes_154 : decode cL_closes 154 = .ok (.invokevirtual 72, 3) := by decide +kernel
theorem dL_closes_157 : decode cL_closes 157 = .ok (.aload_n 0, 1) := by decide +kernel
theorem dL_closes_158 : decode cL_closes 158 = .ok (.iload 7, 2) := by decide +kernel
theorem dL_closes_160 : decode cL_closes 160 = .ok (.iconst 2, 1) := by decide +kernel
theorem dL_closes_161 : decode cL_closes 161 = .ok (.invokevirtual 24, 3) := by decide +kernel
theorem dL_closes_164 : decode cL_closes 164 = .ok (.if_icmp .ge 5, 3) := by decide +kernel
theorem dL_closes_167 : decode cL_closes 167 = .ok (.iconst 0, 1) := by decide +kernel
theorem dL_closes_168 : decode cL_closes 168 = .ok (.ireturn, 1) := by decide +kernel
theorem dL_closes_169 : decode cL_closes 169 = .ok (.iinc 7 1, 3) := by decide +kernel
theorem dL_closes_172 : decode cL_closes 172 = .ok (.goto (-55), 3) := by decide +kernel
theorem dL_closes_175 : decode cL_closes 175 = .ok (.iload 6, 2) := by decide +kernel
theorem dL_closes_177 : decode cL_closes 177 = .ok (.iload 4, 2) := by decide +kernel
theorem dL_closes_179 : decode cL_closes 179 = .ok (.if_icmp .ne 16, 3) := by decide +kernel
theorem dL_closes_182 : decode cL_closes 182 = .ok (.aload_n 0, 1) := by decide +kernel
theorem dL_closes_183 : decode cL_closes 183 = .ok (.iconst 4, 1) := by decide +kernel
theorem dL_closes_184 : decode cL_closes 184 = .ok (.invokevirtual 20, 3) := by decide +kernel
theorem dL_closes_187 : decode cL_closes 187 = .ok (.iconst 2, 1) := by decide +kernel
theorem dL_closes_188 : decode cL_closes 188 = .ok (.if_icmp .ne 7, 3) := by decide +kernel
theorem dL_closes_191 : decode cL_closes 191 = .ok (.iconst 1, 1) := by decide +kernel
theorem dL_closes_192 : decode cL_closes 192 = .ok (.goto 4, 3) := by decide +kernel
theorem dL_closes_195 : decode cL_closes 195 = .ok (.iconst 0, 1) := by decide +kernel
theorem dL_closes_196 : decode cL_closes 196 = .ok (.ireturn, 1) := by decide +kernel
theorem dL_races_0 : decode cL_races 0 = .ok (.aload_n 0, 1) := by decide +kernel
theorem dL_races_1 : decode cL_races 1 = .ok (.iconst 1, 1) := by decide +kernel
theorem dL_races_2 : decode cL_races 2 = .ok (.invokevirtual 20, 3) := by decide +kernel
theorem dL_races_5 : decode cL_races 5 = .ok (.iconst 1, 1) := by decide +kernel
theorem dL_races_6 : decode cL_races 6 = .ok (.isub, 1) := by decide +kernel
theorem dL_races_7 : decode cL_races 7 = .ok (.istore 4, 2) := by decide +kernel
theorem dL_races_9 : decode cL_races 9 = .ok (.aload_n 0, 1) := by decide +kernel
theorem dL_races_10 : decode cL_races 10 = .ok (.iconst 3, 1) := by decide +kernel
theorem dL_races_11 : decode cL_races 11 = .ok (.invokevirtual 20, 3) := by decide +kernel
theorem dL_races_14 : decode cL_races 14 = .ok (.istore 5, 2) := by decide +kernel
theorem dL_races_16 : decode cL_races 16 = .ok (.aload_n 0, 1) := by decide +kernel
theorem dL_races_17 : decode cL_races 17 = .ok (.iconst 4, 1) := by decide +kernel
theorem dL_races_18 : decode cL_races 18 = .ok (.invokevirtual 20, 3) := by decide +kernel
theorem dL_races_21 : decode cL_races 21 = .ok (.iconst 1, 1) := by decide +kernel
theorem dL_races_22 : decode cL_races 22 = .ok (.if_icmp .ne 7, 3) := by decide +kernel
theorem dL_races_25 : decode cL_races 25 = .ok (.iconst 1, 1) := by decide +kernel
theorem dL_races_26 : decode cL_races 26 = .ok (.goto 4, 3) := by decide +kernel
theorem dL_races_29 : decode cL_races 29 = .ok (.iconst 0, 1) := by decide +kernel
theorem dL_races_30 : decode cL_races 30 = .ok (.istore 6, 2) := by decide +kernel
theorem dL_races_32 : decode cL_races 32 = .ok (.iload 4, 2) := by decide +kernel
theorem dL_races_34 : decode cL_races 34 = .ok (.ifCond .ge 7, 3) := by decide +kernel
theorem dL_races_37 : decode cL_races 37 = .ok (.iconst 0, 1) := by decide +kernel
theorem dL_races_38 : decode cL_races 38 = .ok (.goto 10, 3) := by decide +kernel
theorem dL_races_41 : decode cL_races 41 = .ok (.aload_n 0, 1) := by decide +kernel
theorem dL_races_42 : decode cL_races 42 = .ok (.iload 4, 2) := by decide +kernel
theorem dL_races_44 : decode cL_races 44 = .ok (.iconst 2, 1) := by decide +kernel
theorem dL_races_45 : decode cL_races 45 = .ok (.invokevirtual 16, 3) := by decide +kernel
theorem dL_races_48 : decode cL_races 48 = .ok (.istore 7, 2) := by decide +kernel
theorem dL_races_50 : decode cL_races 50 = .ok (.iload_n 1, 1) := by decide +kernel
theorem dL_races_51 : decode cL_races 51 = .ok (.ifCond .ne 124, 3) := by decide +kernel
theorem dL_races_54 : decode cL_races 54 = .ok (.aload_n 0, 1) := by decide +kernel
theorem dL_races_55 : decode cL_races 55 = .ok (.iconst 1, 1) := by decide +kernel
theorem dL_races_56 : decode cL_races 56 = .ok (.iload_n 2, 1) := by decide +kernel
theorem dL_races_57 : decode cL_races 57 = .ok (.iconst 2, 1) := by decide +kernel
theorem dL_races_58 : decode cL_races 58 = .ok (.invokestatic 75, 3) := by decide +kernel
theorem dL_races_61 : decode cL_races 61 = .ok (.iadd, 1) := by decide +kernel
theorem dL_races_62 : decode cL_races 62 = .ok (.iconst 1, 1) := by decide +kernel
theorem dL_races_63 : decode cL_races 63 = .ok (.iload_n 2, 1) := by decide +kernel
theorem dL_races_64 : decode cL_races 64 = .ok (.iconst 2, 1) := by decide +kernel
theorem dL_races_65 : decode cL_races 65 = .ok (.ishr, 1) := by decide +kernel
theorem dL_races_66 : decode cL_races 66 = .ok (.iconst 2, 1) := by decide +kernel
theorem dL_races_67 : decode cL_races 67 = .ok (.invokestatic 75, 3) := by decide +kernel
theorem dL_races_70 : decode cL_races 70 = .ok (.iadd, 1) := by decide +kernel
theorem dL_races_71 : decode cL_races 71 = .ok (.bipush 60, 2) := by decide +kernel
theorem dL_races_73 : decode cL_races 73 = .ok (.iload_n 2, 1) := by decide +kernel
theorem dL_races_74 : decode cL_races 74 = .ok (.iconst 4, 1) := by decide +kernel
theorem dL_races_75 : decode cL_races 75 = .ok (.ishr, 1) := by decide +kernel
theorem dL_races_76 : decode cL_races 76 = .ok (.bipush 60, 2) := by decide +kernel
theorem dL_races_78 : decode cL_races 78 = .ok (.invokestatic 75, 3) := by decide +kernel
theorem dL_races_81 : decode cL_races 81 = .ok (.iadd, 1) := by decide +kernel
theorem dL_races_82 : decode cL_races 82 = .ok (.invokevirtual 78, 3) := by decide +kernel
theorem dL_races_85 : decode cL_races 85 = .ok (.istore 8, 2) := by decide +kernel
theorem dL_races_87 : decode cL_races 87 = .ok (.iload 6, 2) := by decide +kernel
theorem dL_races_89 : decode cL_races 89 = .ok (.ifCond .eq 18, 3) := by decide +kernel
theorem dL_races_92 : decode cL_races 92 = .ok (.iload 8, 2) := by decide +kernel
theorem dL_races_94 : decode cL_races 94 = .ok (.bipush (-4), 2) := by decide +kernel
theorem dL_races_96 : decode cL_races 96 = .ok (.if_icmp .ne 7, 3) := by decide +kernel
theorem dL_races_99 : decode cL_races 99 = .ok (.iconst 1, 1) := by decide +kernel
theorem dL_races_100 : decode cL_races 100 = .ok (.goto 74, 3) := by decide +kernel
theorem dL_races_103 : decode cL_races 103 = .ok (.iconst 0, 1) := by decide +kernel
theorem dL_races_104 : decode cL_races 104 = .ok (.goto 70, 3) := by decide +kernel
theorem dL_races_107 : decode cL_races 107 = .ok (.iload 4, 2) := by decide +kernel
theorem dL_races_109 : decode cL_races 109 = .ok (.iconst 5, 1) := by decide +kernel
theorem dL_races_110 : decode cL_races 110 = .ok (.if_icmp .ne 18, 3) := by decide +kernel
theorem dL_races_113 : decode cL_races 113 = .ok (.iload 8, 2) := by decide +kernel
theorem dL_races_115 : decode cL_races 115 = .ok (.bipush (-3), 2) := by decide +kernel
theorem dL_races_117 : decode cL_races 117 = .ok (.if_icmp .ne 7, 3) := by decide +kernel
theorem dL_races_120 : decode cL_races 120 = .ok (.iconst 1, 1) := by decide +kernel
theorem dL_races_121 : decode cL_races 121 = .ok (.goto 53, 3) := by decide +kernel
theorem dL_races_124 : decode cL_races 124 = .ok (.iconst 0, 1) := by decide +kernel
theorem dL_races_125 : decode cL_races 125 = .ok (.goto 49, 3) := by decide +kernel
theorem dL_races_128 : decode cL_races 128 = .ok (.iload 8, 2) := by decide +kernel
theorem dL_races_130 : decode cL_races 130 = .ok (.iload 4, 2) := by decide +kernel
theorem dL_races_132 : decode cL_races 132 = .ok (.iconst 1, 1) := by decide +kernel
theorem dL_races_133 : decode cL_races 133 = .ok (.iadd, 1) := by decide +kernel
theorem dL_races_134 : decode cL_races 134 = .ok (.if_icmp .ne 39, 3) := by decide +kernel
theorem dL_races_137 : decode cL_races 137 = .ok (.aload_n 0, 1) := by decide +kernel
theorem dL_races_138 : decode cL_races 138 = .ok (.iload 8, 2) := by decide +kernel
theorem dL_races_140 : decode cL_races 140 = .ok (.iconst 2, 1) := by decide +kernel
theorem dL_races_141 : decode cL_races 141 = .ok (.invokevirtual 16, 3) := by decide +kernel
theorem dL_races_144 : decode cL_races 144 = .ok (.iload 5, 2) := by decide +kernel
theorem dL_races_146 : decode cL_races 146 = .ok (.bipush 60, 2) := by decide +kernel
theorem dL_races_148 : decode cL_races 148 = .ok (.iadd, 1) := by decide +kernel
theorem dL_races_149 : decode cL_races 149 = .ok (.iload_n 2, 1) := by decide +kernel
theorem dL_races_150 : decode cL_races 150 = .ok (.iconst 4, 1) := by decide +kernel
theorem dL_races_151 : decode cL_races 151 = .ok (.ishr, 1) := by decide +kernel
theorem dL_races_152 : decode cL_races 152 = .ok (.bipush 60, 2) := by decide +kernel
theorem dL_races_154 : decode cL_races 154 = .ok (.invokestatic 75, 3) := by decide +kernel
theorem dL_races_157 : decode cL_races 157 = .ok (.iadd, 1) := by decide +kernel
theorem dL_races_158 : decode cL_races 158 = .ok (.if_icmp .ne 15, 3) := by decide +kernel
theorem dL_races_161 : decode cL_races 161 = .ok (.aload_n 0, 1) := by decide +kernel
theorem dL_races_162 : decode cL_races 162 = .ok (.iconst 5, 1) := by decide +kernel
theorem dL_races_163 : decode cL_races 163 = .ok (.invokevirtual 20, 3) := by decide +kernel
theorem dL_races_166 : decode cL_races 166 = .ok (.ifCond .ne 7, 3) := by decide +kernel
theorem dL_races_169 : decode cL_races 169 = .ok (.iconst 1, 1) := by decide +kernel
theorem dL_races_170 : decode cL_races 170 = .ok (.goto 4, 3) := by decide +kernel
theorem dL_races_173 : decode cL_races 173 = .ok (.iconst 0, 1) := by decide +kernel
theorem dL_races_174 : decode cL_races 174 = .ok (.ireturn, 1) := by decide +kernel
theorem dL_races_175 : decode cL_races 175 = .ok (.iload_n 1, 1) := by decide +kernel
theorem dL_races_176 : decode cL_races 176 = .ok (.iconst 1, 1) := by decide +kernel
theorem dL_races_177 : decode cL_races 177 = .ok (.if_icmp .ne 50, 3) := by decide +kernel
theorem dL_races_180 : decode cL_races 180 = .ok (.iconst 1, 1) := by decide +kernel
theorem dL_races_181 : decode cL_races 181 = .ok (.iload_n 2, 1) := by decide +kernel
theorem dL_races_182 : decode cL_races 182 = .ok (.bipush 40, 2) := by decide +kernel
theorem dL_races_184 : decode cL_races 184 = .ok (.invokestatic 75, 3) := by decide +kernel
theorem dL_races_187 : decode cL_races 187 = .ok (.iadd, 1) := by decide +kernel
theorem dL_races_188 : decode cL_races 188 = .ok (.istore 8, 2) := by decide +kernel
theorem dL_races_190 : decode cL_races 190 = .ok (.aload_n 0, 1) := by decide +kernel
theorem dL_races_191 : decode cL_races 191 = .ok (.iload 8, 2) := by decide +kernel
theorem dL_races_193 : decode cL_races 193 = .ok (.invokevirtual 81, 3) := by decide +kernel
theorem dL_races_196 : decode cL_races 196 = .ok (.iload 6, 2) := by decide +kernel
theorem dL_races_198 : decode cL_races 198 = .ok (.ifCond .eq 18, 3) := by decide +kernel
theorem dL_races_201 : decode cL_races 201 = .ok (.iload 5, 2) := by decide +kernel
theorem dL_races_203 : decode cL_races 203 = .ok (.iload 7, 2) := by decide +kernel
theorem dL_races_205 : decode cL_races 205 = .ok (.if_icmp .ge 11, 3) := by decide +kernel
theorem dL_races_208 : decode cL_races 208 = .ok (.iload 7, 2) := by decide +kernel
theorem dL_races_210 : decode cL_races 210 = .ok (.iload 8, 2) := by decide +kernel
theorem dL_races_212 : decode cL_races 212 = .ok (.iadd, 1) := by decide +kernel
theorem dL_races_213 : decode cL_races 213 = .ok (.goto 5, 3) := by decide +kernel
theorem dL_races_216 : decode cL_races 216 = .ok (.bipush (-4), 2) := by decide +kernel
theorem dL_races_218 : decode cL_races 218 = .ok (.if_icmp .ne 7, 3) := by decide +kernel
theorem dL_races_221 : decode cL_races 221 = .ok (.iconst 1, 1) := by decide +kernel
theorem dL_races_222 : decode cL_races 222 = .ok (.goto 4, 3) := by decide +kernel
theorem dL_races_225 : decode cL_races 225 = .ok (.iconst 0, 1) := by decide +kernel
theorem dL_races_226 : decode cL_races 226 = .ok (.ireturn, 1) := by decide +kernel
theorem dL_races_227 : decode cL_races 227 = .ok (.iload_n 1, 1) := by decide +kernel
theorem dL_races_228 : decode cL_races 228 = .ok (.iconst 2, 1) := by decide +kernel
theorem dL_races_229 : decode cL_races 229 = .ok (.if_icmp .ne 169, 3) := by decide +kernel
theorem dL_races_232 : decode cL_races 232 = .ok (.iload 6, 2) := by decide +kernel
theorem dL_races_234 : decode cL_races 234 = .ok (.ifCond .eq 24, 3) := by decide +kernel
theorem dL_races_237 : decode cL_races 237 = .ok (.iload 5, 2) := by decide +kernel
theorem dL_races_239 : decode cL_races 239 = .ok (.iload 7, 2) := by decide +kernel
theorem dL_races_241 : decode cL_races 241 = .ok (.if_icmp .lt 17, 3) := by decide +kernel
theorem dL_races_244 : decode cL_races 244 = .ok (.iload 5, 2) := by decide +kernel
theorem dL_races_246 : decode cL_races 246 = .ok (.iload 7, 2) := by decide +kernel
theorem dL_races_248 : decode cL_races 248 = .ok (.bipush 60, 2) := by decide +kernel
theorem dL_races_250 : decode cL_races 250 = .ok (.iadd, 1) := by decide +kernel
theorem dL_races_251 : decode cL_races 251 = .ok (.if_icmp .gt 7, 3) := by decide +kernel
theorem dL_races_254 : decode cL_races 254 = .ok (.iconst 1, 1) := by decide +kernel
theorem dL_races_255 : decode cL_races 255 = .ok (.goto 4, 3) := by decide +kernel
theorem dL_races_258 : decode cL_races 258 = .ok (.iconst 0, 1) := by decide +kernel
theorem dL_races_259 : decode cL_races 259 = .ok (.istore 8, 2) := by decide +kernel
theorem dL_races_261 : decode cL_races 261 = .ok (.aload_n 0, 1) := by decide +kernel
theorem dL_races_262 : decode cL_races 262 = .ok (.invokevirtual 84, 3) := by decide +kernel
theorem dL_races_265 : decode cL_races 265 = .ok (.istore 9, 2) := by decide +kernel
theorem dL_races_267 : decode cL_races 267 = .ok (.iconst 0, 1) := by decide +kernel
theorem dL_races_268 : decode cL_races 268 = .ok (.istore 10, 2) := by decide +kernel
theorem dL_races_270 : decode cL_races 270 = .ok (.iload 10, 2) := by decide +kernel
theorem dL_races_272 : decode cL_races 272 = .ok (.aload_n 0, 1) := by decide +kernel
theorem dL_races_273 : decode cL_races 273 = .ok (.iconst 0, 1) := by decide +kernel
theorem dL_races_274 : decode cL_races 274 = .ok (.invokevirtual 20, 3) := by decide +kernel
theorem dL_races_277 : decode cL_races 277 = .ok (.if_icmp .ge 76, 3) := by decide +kernel
theorem dL_races_280 : decode cL_races 280 = .ok (.iload 8, 2) := by decide +kernel
theorem dL_races_282 : decode cL_races 282 = .ok (.ifCond .eq 71, 3) := by decide +kernel
theorem dL_races_285 : decode cL_races 285 = .ok (.aload_n 0, 1) := by decide +kernel
theorem dL_races_286 : decode cL_races 286 = .ok (.iload 4, 2) := by decide +kernel
theorem dL_races_288 : decode cL_races 288 = .ok (.iload 10, 2) := by decide +kernel
theorem dL_races_290 : decode cL_races 290 = .ok (.iconst 0, 1) := by decide +kernel
theorem dL_races_291 : decode cL_races 291 = .ok (.invokevirtual 10, 3) := by decide +kernel
theorem dL_races_294 : decode cL_races 294 = .ok (.ifCond .ne 51, 3) := by decide +kernel
theorem dL_races_297 : decode cL_races 297 = .ok (.aload_n 0, 1) := by decide +kernel
theorem dL_races_298 : decode cL_races 298 = .ok (.iload 4, 2) := by decide +kernel
theorem dL_races_300 : decode cL_races 300 = .ok (.iload 10, 2) := by decide +kernel
theorem dL_races_302 : decode cL_races 302 = .ok (.iconst 1, 1) := by decide +kernel
theorem dL_races_303 : decode cL_races 303 = .ok (.invokevirtual 10, 3) := by decide +kernel
theorem dL_races_306 : decode cL_races 306 = .ok (.ifCond .ne 39, 3) := by decide +kernel
theorem dL_races_309 : decode cL_races 309 = .ok (.aload_n 0, 1) := by decide +kernel
theorem dL_races_310 : decode cL_races 310 = .ok (.iload 4, 2) := by decide +kernel
theorem dL_races_312 : decode cL_races 312 = .ok (.iload 10, 2) := by decide +kernel
theorem dL_races_314 : decode cL_races 314 = .ok (.iconst 2, 1) := by decide +kernel
theorem dL_races_315 : decode cL_races 315 = .ok (.invokevirtual 10, 3) := by decide +kernel
theorem dL_races_318 : decode cL_races 318 = .ok (.ifCond .ne 27, 3) := by decide +kernel
theorem dL_races_321 : decode cL_races 321 = .ok (.aload_n 0, 1) := by decide +kernel
theorem dL_races_322 : decode cL_races 322 = .ok (.iload 4, 2) := by decide +kernel
theorem dL_races_324 : decode cL_races 324 = .ok (.iload 10, 2) := by decide +kernel
theorem dL_races_326 : decode cL_races 326 = .ok (.iconst 3, 1) := by decide +kernel
theorem dL_races_327 : decode cL_races 327 = .ok (.invokevirtual 10, 3) := by decide +kernel
theorem dL_races_330 : decode cL_races 330 = .ok (.ifCond .ne 15, 3) := by decide +kernel
theorem dL_races_333 : decode cL_races 333 = .ok (.aload_n 0, 1) := by decide +kernel
theorem dL_races_334 : decode cL_races 334 = .ok (.iload 4, 2) := by decide +kernel
theorem dL_races_336 : decode cL_races 336 = .ok (.iload 10, 2) := by decide +kernel
theorem dL_races_338 : decode cL_races 338 = .ok (.iconst 4, 1) := by decide +kernel
theorem dL_races_339 : decode cL_races 339 = .ok (.invokevirtual 10, 3) := by decide +kernel
theorem dL_races_342 : decode cL_races 342 = .ok (.ifCond .eq 5, 3) := by decide +kernel
theorem dL_races_345 : decode cL_races 345 = .ok (.iconst 0, 1) := by decide +kernel
theorem dL_races_346 : decode cL_races 346 = .ok (.ireturn, 1) := by decide +kernel
theorem dL_races_347 : decode cL_races 347 = .ok (.iinc 10 1, 3) := by decide +kernel
theorem dL_races_350 : decode cL_races 350 = .ok (.goto (-80), 3) := by decide +kernel
theorem dL_races_353 : decode cL_races 353 = .ok (.iload 8, 2) := by decide +kernel
theorem dL_races_355 : decode cL_races 355 = .ok (.ifCond .eq 30, 3) := by decide +kernel
theorem dL_races_358 : decode cL_races 358 = .ok (.iload 9, 2) := by decide +kernel
theorem dL_races_360 : decode cL_races 360 = .ok (.iload 5, 2) := by decide +kernel
theorem dL_races_362 : decode cL_races 362 = .ok (.sipush 300, 3) := by decide +kernel
theorem dL_races_365 : decode cL_races 365 = .ok (.iadd, 1) := by decide +kernel
theorem dL_races_366 : decode cL_races 366 = .ok (.if_icmp .ne 15, 3) := by decide +kernel
theorem dL_races_369 : decode cL_races 369 = .ok (.aload_n 0, 1) := by decide +kernel
theorem dL_races_370 : decode cL_races 370 = .ok (.iconst 5, 1) := by decide +kernel
theorem dL_races_371 : decode cL_races 371 = .ok (.invokevirtual 20, 3) := by decide +kernel
theorem dL_races_374 : decode cL_races 374 = .ok (.ifCond .ne 7, 3) := by decide +kernel
theorem dL_races_377 : decode cL_races 377 = .ok (.iconst 1, 1) := by decide +kernel
theorem dL_races_378 : decode cL_races 378 = .ok (.goto 19, 3) := by decide +kernel
theorem dL_races_381 : decode cL_races 381 = .ok (.iconst 0, 1) := by decide +kernel
theorem dL_races_382 : decode cL_races 382 = .ok (.goto 15, 3) := by decide +kernel
theorem dL_races_385 : decode cL_races 385 = .ok (.iload 9, 2) := by decide +kernel
theorem dL_races_387 : decode cL_races 387 = .ok (.bipush (-4), 2) := by decide +kernel
theorem dL_races_389 : decode cL_races 389 = .ok (.if_icmp .ne 7, 3) := by decide +kernel
theorem dL_races_392 : decode cL_races 392 = .ok (.iconst 1, 1) := by decide +kernel
theorem dL_races_393 : decode cL_races 393 = .ok (.goto 4, 3) := by decide +kernel
theorem dL_races_396 : decode cL_races 396 = .ok (.iconst 0, 1) := by decide +kernel
theorem dL_races_397 : decode cL_races 397 = .ok (.ireturn, 1) := by decide +kernel
theorem dL_races_398 : decode cL_races 398 = .ok (.aload_n 0, 1) := by decide +kernel
theorem dL_races_399 : decode cL_races 399 = .ok (.invokestatic 87, 3) := by decide +kernel
theorem dL_races_402 : decode cL_races 402 = .ok (.ireturn, 1) := by decide +kernel
theorem dL_sails_0 : decode cL_sails 0 = .ok (.aload_n 0, 1) := by decide +kernel
theorem dL_sails_1 : decode cL_sails 1 = .ok (.iconst 1, 1) := by decide +kernel
theorem dL_sails_2 : decode cL_sails 2 = .ok (.invokevirtual 20, 3) := by decide +kernel
theorem dL_sails_5 : decode cL_sails 5 = .ok (.iconst 1, 1) := by decide +kernel
theorem dL_sails_6 : decode cL_sails 6 = .ok (.isub, 1) := by decide +kernel
theorem dL_sails_7 : decode cL_sails 7 = .ok (.istore_n 3, 1) := by decide +kernel
theorem dL_sails_8 : decode cL_sails 8 = .ok (.aload_n 0, 1) := by decide +kernel
theorem dL_sails_9 : decode cL_sails 9 = .ok (.iconst 4, 1) := by decide +kernel
theorem dL_sails_10 : decode cL_sails 10 = .ok (.invokevirtual 20, 3) := by decide +kernel
theorem dL_sails_13 : decode cL_sails 13 = .ok (.iconst 1, 1) := by decide +kernel
theorem dL_sails_14 : decode cL_sails 14 = .ok (.if_icmp .eq 50, 3) := by decide +kernel
theorem dL_sails_17 : decode cL_sails 17 = .ok (.aload_n 0, 1) := by decide +kernel
theorem dL_sails_18 : decode cL_sails 18 = .ok (.iload_n 1, 1) := by decide +kernel
theorem dL_sails_19 : decode cL_sails 19 = .ok (.invokevirtual 57, 3) := by decide +kernel
theorem dL_sails_22 : decode cL_sails 22 = .ok (.bipush (-4), 2) := by decide +kernel
theorem dL_sails_24 : decode cL_sails 24 = .ok (.if_icmp .ne 38, 3) := by decide +kernel
theorem dL_sails_27 : decode cL_sails 27 = .ok (.aload_n 0, 1) := by decide +kernel
theorem dL_sails_28 : decode cL_sails 28 = .ok (.iload_n 1, 1) := by decide +kernel
theorem dL_sails_29 : decode cL_sails 29 = .ok (.iconst 0, 1) := by decide +kernel
theorem dL_sails_30 : decode cL_sails 30 = .ok (.invokevirtual 50, 3) := by decide +kernel
theorem dL_sails_33 : decode cL_sails 33 = .ok (.bipush (-2), 2) := by decide +kernel
theorem dL_sails_35 : decode cL_sails 35 = .ok (.if_icmp .ne 27, 3) := by decide +kernel
theorem dL_sails_38 : decode cL_sails 38 = .ok (.aload_n 0, 1) := by decide +kernel
theorem dL_sails_39 : decode cL_sails 39 = .ok (.iload_n 1, 1) := by decide +kernel
theorem dL_sails_40 : decode cL_sails 40 = .ok (.invokevirtual 91, 3) := by decide +kernel
theorem dL_sails_43 : decode cL_sails 43 = .ok (.bipush (-4), 2) := by decide +kernel
theorem dL_sails_45 : decode cL_sails 45 = .ok (.if_icmp .ne 17, 3) := by decide +kernel
theorem dL_sails_48 : decode cL_sails 48 = .ok (.aload_n 0, 1) := by decide +kernel
theorem dL_sails_49 : decode cL_sails 49 = .ok (.iload_n 1, 1) := by decide +kernel
theorem dL_sails_50 : decode cL_sails 50 = .ok (.invokevirtual 43, 3) := by decide +kernel
theorem dL_sails_53 : decode cL_sails 53 = .ok (.bipush (-4), 2) := by decide +kernel
theorem dL_sails_55 : decode cL_sails 55 = .ok (.if_icmp .ne 7, 3) := by decide +kernel
theorem dL_sails_58 : decode cL_sails 58 = .ok (.iconst 1, 1) := by decide +kernel
theorem dL_sails_59 : decode cL_sails 59 = .ok (.goto 4, 3) := by decide +kernel
theorem dL_sails_62 : decode cL_sails 62 = .ok (.iconst 0, 1) := by decide +kernel
theorem dL_sails_63 : decode cL_sails 63 = .ok (.ireturn, 1) := by decide +kernel
theorem dL_sails_64 : decode cL_sails 64 = .ok (.aload_n 0, 1) := by decide +kernel
theorem dL_sails_65 : decode cL_sails 65 = .ok (.iload_n 3, 1) := by decide +kernel
theorem dL_sails_66 : decode cL_sails 66 = .ok (.iload_n 1, 1) := by decide +kernel
theorem dL_sails_67 : decode cL_sails 67 = .ok (.iconst 0, 1) := by decide +kernel
theorem dL_sails_68 : decode cL_sails 68 = .ok (.invokevirtual 10, 3) := by decide +kernel
theorem dL_sails_71 : decode cL_sails 71 = .ok (.istore 4, 2) := by decide +kernel
theorem dL_sails_73 : decode cL_sails 73 = .ok (.aload_n 0, 1) := by decide +kernel
theorem dL_sails_74 : decode cL_sails 74 = .ok (.iload_n 3, 1) := by decide +kernel
theorem dL_sails_75 : decode cL_sails 75 = .ok (.iload_n 1, 1) := by decide +kernel
theorem dL_sails_76 : decode cL_sails 76 = .ok (.iconst 1, 1) := by decide +kernel
theorem dL_sails_77 : decode cL_sails 77 = .ok (.invokevirtual 10, 3) := by decide +kernel
theorem dL_sails_80 : decode cL_sails 80 = .ok (.istore 5, 2) := by decide +kernel
theorem dL_sails_82 : decode cL_sails 82 = .ok (.aload_n 0, 1) := by decide +kernel
theorem dL_sails_83 : decode cL_sails 83 = .ok (.iload_n 3, 1) := by decide +kernel
theorem dL_sails_84 : decode cL_sails 84 = .ok (.iconst 0, 1) := by decide +kernel
theorem dL_sails_85 : decode cL_sails 85 = .ok (.invokevirtual 16, 3) := by decide +kernel
theorem dL_sails_88 : decode cL_sails 88 = .ok (.aload_n 0, 1) := by decide +kernel
theorem dL_sails_89 : decode cL_sails 89 = .ok (.iload_n 3, 1) := by decide +kernel
theorem dL_sails_90 : decode cL_sails 90 = .ok (.iconst 1, 1) := by decide +kernel
theorem dL_sails_91 : decode cL_sails 91 = .ok (.invokevirtual 16, 3) := by decide +kernel
theorem dL_sails_94 : decode cL_sails 94 = .ok (.imul, 1) := by decide +kernel
theorem dL_sails_95 : decode cL_sails 95 = .ok (.istore 6, 2) := by decide +kernel
theorem dL_sails_97 : decode cL_sails 97 = .ok (.iload_n 2, 1) := by decide +kernel
theorem dL_sails_98 : decode cL_sails 98 = .ok (.bipush 12, 2) := by decide +kernel
theorem dL_sails_100 : decode cL_sails 100 = .ok (.invokestatic 75, 3) := by decide +kernel
theorem dL_sails_103 : decode cL_sails 103 = .ok (.ifCond .ne 56, 3) := by decide +kernel
theorem dL_sails_106 : decode cL_sails 106 = .ok (.aload_n 0, 1) := by decide +kernel
theorem dL_sails_107 : decode cL_sails 107 = .ok (.iload_n 1, 1) := by decide +kernel
theorem dL_sails_108 : decode cL_sails 108 = .ok (.invokevirtual 91, 3) := by decide +kernel
theorem dL_sails_111 : decode cL_sails 111 = .ok (.istore 7, 2) := by decide +kernel
theorem dL_sails_113 : decode cL_sails 113 = .ok (.iload 7, 2) := by decide +kernel
theorem dL_sails_115 : decode cL_sails 115 = .ok (.iload 4, 2) := by decide +kernel
theorem dL_sails_117 : decode cL_sails 117 = .ok (.iconst 3, 1) := by decide +kernel
theorem dL_sails_118 : decode cL_sails 118 = .ok (.if_icmp .ge 8, 3) := by decide +kernel
theorem dL_sails_121 : decode cL_sails 121 = .ok (.iload 4, 2) := by decide +kernel
theorem dL_sails_123 : decode cL_sails 123 = .ok (.goto 5, 3) := by decide +kernel
theorem dL_sails_126 : decode cL_sails 126 = .ok (.bipush (-4), 2) := by decide +kernel
theorem dL_sails_128 : decode cL_sails 128 = .ok (.if_icmp .ne 29, 3) := by decide +kernel
theorem dL_sails_131 : decode cL_sails 131 = .ok (.aload_n 0, 1) := by decide +kernel
theorem dL_sails_132 : decode cL_sails 132 = .ok (.iload_n 3, 1) := by decide +kernel
theorem dL_sails_133 : decode cL_sails 133 = .ok (.iload_n 1, 1) := by decide +kernel
theorem dL_sails_134 : decode cL_sails 134 = .ok (.iconst 0, 1) := by decide +kernel
theorem dL_sails_135 : decode cL_sails 135 = .ok (.invokevirtual 10, 3) := by decide +kernel
theorem dL_sails_138 : decode cL_sails 138 = .ok (.iload 4, 2) := by decide +kernel
theorem dL_sails_140 : decode cL_sails 140 = .ok (.iconst 3, 1) := by decide +kernel
theorem dL_sails_141 : decode cL_sails 141 = .ok (.if_icmp .ge 7, 3) := by decide +kernel
theorem dL_sails_144 : decode cL_sails 144 = .ok (.iconst 4, 1) := by decide +kernel
theorem dL_sails_145 : decode cL_sails 145 = .ok (.goto 5, 3) := by decide +kernel
theorem dL_sails_148 : decode cL_sails 148 = .ok (.iload 4, 2) := by decide +kernel
theorem dL_sails_150 : decode cL_sails 150 = .ok (.if_icmp .ne 7, 3) := by decide +kernel
theorem dL_sails_153 : decode cL_sails 153 = .ok (.iconst 1, 1) := by decide +kernel
theorem dL_sails_154 : decode cL_sails 154 = .ok (.goto 4, 3) := by decide +kernel
theorem dL_sails_157 : decode cL_sails 157 = .ok (.iconst 0, 1) := by decide +kernel
theorem dL_sails_158 : decode cL_sails 158 = .ok (.ireturn, 1) := by decide +kernel
theorem dL_sails_159 : decode cL_sails 159 = .ok (.iload_n 2, 1) := by decide +kernel
theorem dL_sails_160 : decode cL_sails 160 = .ok (.bipush 12, 2) := by decide +kernel
theorem dL_sails_162 : decode cL_sails 162 = .ok (.invokestatic 75, 3) := by decide +kernel
theorem dL_sails_165 : decode cL_sails 165 = .ok (.iconst 1, 1) := by decide +kernel
theorem dL_sails_166 : decode cL_sails 166 = .ok (.if_icmp .ne 15, 3) := by decide +kernel
theorem dL_sails_169 : decode cL_sails 169 = .ok (.iload 4, 2) := by decide +kernel
theorem dL_sails_171 : decode cL_sails 171 = .ok (.iconst 2, 1) := by decide +kernel
theorem dL_sails_172 : decode cL_sails 172 = .ok (.if_icmp .ne 9, 3) := by decide +kernel
theorem dL_sails_175 : decode cL_sails 175 = .ok (.aload_n 0, 1) := by decide +kernel
theorem dL_sails_176 : decode cL_sails 176 = .ok (.iload_n 1, 1) := by decide +kernel
theorem dL_sails_177 : decode cL_sails 177 = .ok (.invokestatic 94, 3) := by decide +kernel
theorem dL_sails_180 : decode cL_sails 180 = .ok (.ireturn, 1) := by decide +kernel
theorem dL_sails_181 : decode cL_sails 181 = .ok (.iload 4, 2) := by decide +kernel
theorem dL_sails_183 : decode cL_sails 183 = .ok (.iconst 2, 1) := by decide +kernel
theorem dL_sails_184 : decode cL_sails 184 = .ok (.if_icmp .ne 10, 3) := by decide +kernel
theorem dL_sails_187 : decode cL_sails 187 = .ok (.iload 5, 2) := by decide +kernel
theorem dL_sails_189 : decode cL_sails 189 = .ok (.iload 6, 2) := by decide +kernel
theorem dL_sails_191 : decode cL_sails 191 = .ok (.if_icmp .ne 98, 3) := by decide +kernel
theorem dL_sails_194 : decode cL_sails 194 = .ok (.aload_n 0, 1) := by decide +kernel
theorem dL_sails_195 : decode cL_sails 195 = .ok (.iload_n 1, 1) := by decide +kernel
theorem dL_sails_196 : decode cL_sails 196 = .ok (.invokevirtual 57, 3) := by decide +kernel
theorem dL_sails_199 : decode cL_sails 199 = .ok (.istore 7, 2) := by decide +kernel
theorem dL_sails_201 : decode cL_sails 201 = .ok (.aload_n 0, 1) := by decide +kernel
theorem dL_sails_202 : decode cL_sails 202 = .ok (.iconst 3, 1) := by decide +kernel
theorem dL_sails_203 : decode cL_sails 203 = .ok (.invokevirtual 20, 3) := by decide +kernel
theorem dL_sails_206 : decode cL_sails 206 = .ok (.aload_n 0, 1) := by decide +kernel
theorem dL_sails_207 : decode cL_sails 207 = .ok (.iload_n 3, 1) := by decide +kernel
theorem dL_sails_208 : decode cL_sails 208 = .ok (.iconst 2, 1) := by decide +kernel
theorem dL_sails_209 : decode cL_sails 209 = .ok (.invokevirtual 16, 3) := by decide +kernel
theorem dL_sails_212 : decode cL_sails 212 = .ok (.if_icmp .lt 7, 3) := by decide +kernel
theorem dL_sails_215 : decode cL_sails 215 = .ok (.iconst 1, 1) := by decide +kernel
theorem dL_sails_216 : decode cL_sails 216 = .ok (.goto 4, 3) := by decide +kernel
theorem dL_sails_219 : decode cL_sails 219 = .ok (.iconst 0, 1) := by decide +kernel
theorem dL_sails_220 : decode cL_sails 220 = .ok (.istore 8, 2) := by decide +kernel
theorem dL_sails_222 : decode cL_sails 222 = .ok (.iload 7, 2) := by decide +kernel
theorem dL_sails_224 : decode cL_sails 224 = .ok (.iload 4, 2) := by decide +kernel
theorem dL_sails_226 : decode cL_sails 226 = .ok (.iconst 2, 1) := by decide +kernel
theorem dL_sails_227 : decode cL_sails 227 = .ok (.if_icmp .le 8, 3) := by decide +kernel
theorem dL_sails_230 : decode cL_sails 230 = .ok (.bipush (-4), 2) := by decide +kernel
theorem dL_sails_232 : decode cL_sails 232 = .ok (.goto 26, 3) := by decide +kernel
theorem dL_sails_235 : decode cL_sails 235 = .ok (.iload 4, 2) := by decide +kernel
theorem dL_sails_237 : decode cL_sails 237 = .ok (.iconst 2, 1) := by decide +kernel
theorem dL_sails_238 : decode cL_sails 238 = .ok (.if_icmp .ne 7, 3) := by decide +kernel
theorem dL_sails_241 : decode cL_sails 241 = .ok (.iconst 3, 1) := by decide +kernel
theorem dL_sails_242 : decode cL_sails 242 = .ok (.goto 16, 3) := by decide +kernel
theorem dL_sails_245 : decode cL_sails 245 = .ok (.iload 8, 2) := by decide +kernel
theorem dL_sails_247 : decode cL_sails 247 = .ok (.ifCond .eq 7, 3) := by decide +kernel
theorem dL_sails_250 : decode cL_sails 250 = .ok (.iconst 2, 1) := by decide +kernel
theorem dL_sails_251 : decode cL_sails 251 = .ok (.goto 7, 3) := by decide +kernel
theorem dL_sails_254 : decode cL_sails 254 = .ok (.iconst 1, 1) := by decide +kernel
theorem dL_sails_255 : decode cL_sails 255 = .ok (.iload 4, 2) := by decide +kernel
theorem dL_sails_257 : decode cL_sails 257 = .ok (.isub, 1) := by decide +kernel
theorem dL_sails_258 : decode cL_sails 258 = .ok (.if_icmp .ne 29, 3) := by decide +kernel
theorem dL_sails_261 : decode cL_sails 261 = .ok (.aload_n 0, 1) := by decide +kernel
theorem dL_sails_262 : decode cL_sails 262 = .ok (.iload_n 3, 1) := by decide +kernel
theorem dL_sails_263 : decode cL_sails 263 = .ok (.iload_n 1, 1) := by decide +kernel
theorem dL_sails_264 : decode cL_sails 264 = .ok (.iconst 0, 1) := by decide +kernel
theorem dL_sails_265 : decode cL_sails 265 = .ok (.invokevirtual 10, 3) := by decide +kernel
theorem dL_sails_268 : decode cL_sails 268 = .ok (.iload 7, 2) := by decide +kernel
theorem dL_sails_270 : decode cL_sails 270 = .ok (.ifCond .ge 8, 3) := by decide +kernel
theorem dL_sails_273 : decode cL_sails 273 = .ok (.iload 4, 2) := by decide +kernel
theorem dL_sails_275 : decode cL_sails 275 = .ok (.goto 5, 3) := by decide +kernel
theorem dL_sails_278 : decode cL_sails 278 = .ok (.iload 7, 2) := by decide +kernel
theorem dL_sails_280 : decode cL_sails 280 = .ok (.if_icmp .ne 7, 3) := by decide +kernel
theorem dL_sails_283 : decode cL_sails 283 = .ok (.iconst 1, 1) := by decide +kernel
theorem dL_sails_284 : decode cL_sails 284 = .ok (.goto 4, 3) := by decide +kernel
theorem dL_sails_287 : decode cL_sails 287 = .ok (.iconst 0, 1) := by decide +kernel
theorem dL_sails_288 : decode cL_sails 288 = .ok (.ireturn, 1) := by decide +kernel
theorem dL_sails_289 : decode cL_sails 289 = .ok (.iload_n 2, 1) := by decide +kernel
theorem dL_sails_290 : decode cL_sails 290 = .ok (.bipush 12, 2) := by decide +kernel
theorem dL_sails_292 : decode cL_sails 292 = .ok (.invokestatic 75, 3) := by decide +kernel
theorem dL_sails_295 : decode cL_sails 295 = .ok (.iconst 2, 1) := by decide +kernel
theorem dL_sails_296 : decode cL_sails 296 = .ok (.if_icmp .ne 13, 3) := by decide +kernel
theorem dL_sails_299 : decode cL_sails 299 = .ok (.iload_n 2, 1) := by decide +kernel
theorem dL_sails_300 : decode cL_sails 300 = .ok (.iconst 4, 1) := by decide +kernel
theorem dL_sails_301 : decode cL_sails 301 = .ok (.ishr, 1) := by decide +kernel
theorem dL_sails_302 : decode cL_sails 302 = .ok (.iconst 5, 1) := by decide +kernel
theorem dL_sails_303 : decode cL_sails 303 = .ok (.invokestatic 75, 3) := by decide +kernel
theorem dL_sails_306 : decode cL_sails 306 = .ok (.goto 12, 3) := by decide +kernel
theorem dL_sails_309 : decode cL_sails 309 = .ok (.iload 5, 2) := by decide +kernel
theorem dL_sails_311 : decode cL_sails 311 = .ok (.aload_n 0, 1) := by decide +kernel
theorem dL_sails_312 : decode cL_sails 312 = .ok (.iload_n 3, 1) := by decide +kernel
theorem dL_sails_313 : decode cL_sails 313 = .ok (.iconst 0, 1) := by decide +kernel
theorem dL_sails_314 : decode cL_sails 314 = .ok (.invokevirtual 16, 3) := by decide +kernel
theorem dL_sails_317 : decode cL_sails 317 = .ok (.irem, 1) := by decide +kernel
theorem dL_sails_318 : decode cL_sails 318 = .ok (.istore 7, 2) := by decide +kernel
theorem dL_sails_320 : decode cL_sails 320 = .ok (.aload_n 0, 1) := by decide +kernel
theorem dL_sails_321 : decode cL_sails 321 = .ok (.iload_n 3, 1) := by decide +kernel
theorem dL_sails_322 : decode cL_sails 322 = .ok (.iload_n 1, 1) := by decide +kernel
theorem dL_sails_323 : decode cL_sails 323 = .ok (.iconst 2, 1) := by decide +kernel
theorem dL_sails_324 : decode cL_sails 324 = .ok (.invokevirtual 10, 3) := by decide +kernel
theorem dL_sails_327 : decode cL_sails 327 = .ok (.istore 8, 2) := by decide +kernel
theorem dL_sails_329 : decode cL_sails 329 = .ok (.aload_n 0, 1) := by decide +kernel
theorem dL_sails_330 : decode cL_sails 330 = .ok (.iload_n 1, 1) := by decide +kernel
theorem dL_sails_331 : decode cL_sails 331 = .ok (.iload 7, 2) := by decide +kernel
theorem dL_sails_333 : decode cL_sails 333 = .ok (.invokevirtual 50, 3) := by decide +kernel
theorem dL_sails_336 : decode cL_sails 336 = .ok (.istore 9, 2) := by decide +kernel
theorem dL_sails_338 : decode cL_sails 338 = .ok (.iload 7, 2) := by decide +kernel
theorem dL_sails_340 : decode cL_sails 340 = .ok (.aload_n 0, 1) := by decide +kernel
theorem dL_sails_341 : decode cL_sails 341 = .ok (.iload_n 3, 1) := by decide +kernel
theorem dL_sails_342 : decode cL_sails 342 = .ok (.iconst 0, 1) := by decide +kernel
theorem dL_sails_343 : decode cL_sails 343 = .ok (.invokevirtual 16, 3) := by decide +kernel
theorem dL_sails_346 : decode cL_sails 346 = .ok (.if_icmp .lt 18, 3) := by decide +kernel
theorem dL_sails_349 : decode cL_sails 349 = .ok (.iload 9, 2) := by decide +kernel
theorem dL_sails_351 : decode cL_sails 351 = .ok (.bipush (-2), 2) := by decide +kernel
theorem dL_sails_353 : decode cL_sails 353 = .ok (.if_icmp .ne 7, 3) := by decide +kernel
theorem dL_sails_356 : decode cL_sails 356 = .ok (.iconst 1, 1) := by decide +kernel
theorem dL_sails_357 : decode cL_sails 357 = .ok (.goto 76, 3) := by decide +kernel
theorem dL_sails_360 : decode cL_sails 360 = .ok (.iconst 0, 1) := by decide +kernel
theorem dL_sails_361 : decode cL_sails 361 = .ok (.goto 72, 3) := by decide +kernel
theorem dL_sails_364 : decode cL_sails 364 = .ok (.iload 7, 2) := by decide +kernel
theorem dL_sails_366 : decode cL_sails 366 = .ok (.iload 5, 2) := by decide +kernel
theorem dL_sails_368 : decode cL_sails 368 = .ok (.aload_n 0, 1) := by decide +kernel
theorem dL_sails_369 : decode cL_sails 369 = .ok (.iload_n 3, 1) := by decide +kernel
theorem dL_sails_370 : decode cL_sails 370 = .ok (.iconst 0, 1) := by decide +kernel
theorem dL_sails_371 : decode cL_sails 371 = .ok (.invokevirtual 16, 3) := by decide +kernel
theorem dL_sails_374 : decode cL_sails 374 = .ok (.irem, 1) := by decide +kernel
theorem dL_sails_375 : decode cL_sails 375 = .ok (.if_icmp .ne 32, 3) := by decide +kernel
theorem dL_sails_378 : decode cL_sails 378 = .ok (.iload 9, 2) := by decide +kernel
theorem dL_sails_380 : decode cL_sails 380 = .ok (.iload 5, 2) := by decide +kernel
theorem dL_sails_382 : decode cL_sails 382 = .ok (.iconst 1, 1) := by decide +kernel
theorem dL_sails_383 : decode cL_sails 383 = .ok (.iadd, 1) := by decide +kernel
theorem dL_sails_384 : decode cL_sails 384 = .ok (.if_icmp .ne 19, 3) := by decide +kernel
theorem dL_sails_387 : decode cL_sails 387 = .ok (.aload_n 0, 1) := by decide +kernel
theorem dL_sails_388 : decode cL_sails 388 = .ok (.iload_n 3, 1) := by decide +kernel
theorem dL_sails_389 : decode cL_sails 389 = .ok (.iload_n 1, 1) := by decide +kernel
theorem dL_sails_390 : decode cL_sails 390 = .ok (.iconst 2, 1) := by decide +kernel
theorem dL_sails_391 : decode cL_sails 391 = .ok (.invokevirtual 10, 3) := by decide +kernel
theorem dL_sails_394 : decode cL_sails 394 = .ok (.iload 8, 2) := by decide +kernel
theorem dL_sails_396 : decode cL_sails 396 = .ok (.if_icmp .ne 7, 3) := by decide +kernel
theorem dL_sails_399 : decode cL_sails 399 = .ok (.iconst 1, 1) := by decide +kernel
theorem dL_sails_400 : decode cL_sails 400 = .ok (.goto 33, 3) := by decide +kernel
theorem dL_sails_403 : decode cL_sails 403 = .ok (.iconst 0, 1) := by decide +kernel
theorem dL_sails_404 : decode cL_sails 404 = .ok (.goto 29, 3) := by decide +kernel
theorem dL_sails_407 : decode cL_sails 407 = .ok (.iload 9, 2) := by decide +kernel
theorem dL_sails_409 : decode cL_sails 409 = .ok (.iload 5, 2) := by decide +kernel
theorem dL_sails_411 : decode cL_sails 411 = .ok (.if_icmp .ne 21, 3) := by decide +kernel
theorem dL_sails_414 : decode cL_sails 414 = .ok (.aload_n 0, 1) := by decide +kernel
theorem dL_sails_415 : decode cL_sails 415 = .ok (.iload_n 3, 1) := by decide +kernel
theorem dL_sails_416 : decode cL_sails 416 = .ok (.iload_n 1, 1) := by decide +kernel
theorem dL_sails_417 : decode cL_sails 417 = .ok (.iconst 2, 1) := by decide +kernel
theorem dL_sails_418 : decode cL_sails 418 = .ok (.invokevirtual 10, 3) := by decide +kernel
theorem dL_sails_421 : decode cL_sails 421 = .ok (.iload 8, 2) := by decide +kernel
theorem dL_sails_423 : decode cL_sails 423 = .ok (.iconst 1, 1) := by decide +kernel
theorem dL_sails_424 : decode cL_sails 424 = .ok (.iadd, 1) := by decide +kernel
theorem dL_sails_425 : decode cL_sails 425 = .ok (.if_icmp .ne 7, 3) := by decide +kernel
theorem dL_sails_428 : decode cL_sails 428 = .ok (.iconst 1, 1) := by decide +kernel
theorem dL_sails_429 : decode cL_sails 429 = .ok (.goto 4, 3) := by decide +kernel
theorem dL_sails_432 : decode cL_sails 432 = .ok (.iconst 0, 1) := by decide +kernel
theorem dL_sails_433 : decode cL_sails 433 = .ok (.ireturn, 1) := by decide +kernel
theorem dL_protests_0 : decode cL_protests 0 = .ok (.aload_n 0, 1) := by decide +kernel
theorem dL_protests_1 : decode cL_protests 1 = .ok (.iconst 5, 1) := by decide +kernel
theorem dL_protests_2 : decode cL_protests 2 = .ok (.invokevirtual 20, 3) := by decide +kernel
theorem dL_protests_5 : decode cL_protests 5 = .ok (.istore_n 2, 1) := by decide +kernel
theorem dL_protests_6 : decode cL_protests 6 = .ok (.aload_n 0, 1) := by decide +kernel
theorem dL_protests_7 : decode cL_protests 7 = .ok (.iconst 1, 1) := by decide +kernel
theorem dL_protests_8 : decode cL_protests 8 = .ok (.invokevirtual 20, 3) := by decide +kernel
theorem dL_protests_11 : decode cL_protests 11 = .ok (.iconst 1, 1) := by decide +kernel
theorem dL_protests_12 : decode cL_protests 12 = .ok (.isub, 1) := by decide +kernel
theorem dL_protests_13 : decode cL_protests 13 = .ok (.istore_n 3, 1) := by decide +kernel
theorem dL_protests_14 : decode cL_protests 14 = .ok (.iload_n 2, 1) := by decide +kernel
theorem dL_protests_15 : decode cL_protests 15 = .ok (.ifCond .ne 18, 3) := by decide +kernel
theorem dL_protests_18 : decode cL_protests 18 = .ok (.aload_n 0, 1) := by decide +kernel
theorem dL_protests_19 : decode cL_protests 19 = .ok (.iconst 0, 1) := by decide +kernel
theorem dL_protests_20 : decode cL_protests 20 = .ok (.invokevirtual 97, 3) := by decide +kernel
theorem dL_protests_23 : decode cL_protests 23 = .ok (.iconst (-1), 1) := by decide +kernel
theorem dL_protests_24 : decode cL_protests 24 = .ok (.if_icmp .ne 7, 3) := by decide +kernel
theorem dL_protests_27 : decode cL_protests 27 = .ok (.iconst 1, 1) := by decide +kernel
theorem dL_protests_28 : decode cL_protests 28 = .ok (.goto 4, 3) := by decide +kernel
theorem dL_protests_31 : decode cL_protests 31 = .ok (.iconst 0, 1) := by decide +kernel
theorem dL_protests_32 : decode cL_protests 32 = .ok (.ireturn, 1) := by decide +kernel
theorem dL_protests_33 : decode cL_protests 33 = .ok (.iload_n 1, 1) := by decide +kernel
theorem dL_protests_34 : decode cL_protests 34 = .ok (.iload_n 2, 1) := by decide +kernel
theorem dL_protests_35 : decode cL_protests 35 = .ok (.invokestatic 75, 3) := by decide +kernel
theorem dL_protests_38 : decode cL_protests 38 = .ok (.istore 4, 2) := by decide +kernel
theorem dL_protests_40 : decode cL_protests 40 = .ok (.aload_n 0, 1) := by decide +kernel
theorem dL_protests_41 : decode cL_protests 41 = .ok (.iload 4, 2) := by decide +kernel
theorem dL_protests_43 : decode cL_protests 43 = .ok (.iconst 3, 1) := by decide +kernel
theorem dL_protests_44 : decode cL_protests 44 = .ok (.invokevirtual 40, 3) := by decide +kernel
theorem dL_protests_47 : decode cL_protests 47 = .ok (.istore 5, 2) := by decide +kernel
theorem dL_protests_49 : decode cL_protests 49 = .ok (.aload_n 0, 1) := by decide +kernel
theorem dL_protests_50 : decode cL_protests 50 = .ok (.iload 4, 2) := by decide +kernel
theorem dL_protests_52 : decode cL_protests 52 = .ok (.iconst 1, 1) := by decide +kernel
theorem dL_protests_53 : decode cL_protests 53 = .ok (.invokevirtual 40, 3) := by decide +kernel
theorem dL_protests_56 : decode cL_protests 56 = .ok (.istore 6, 2) := by decide +kernel
theorem dL_protests_58 : decode cL_protests 58 = .ok (.iload_n 1, 1) := by decide +kernel
theorem dL_protests_59 : decode cL_protests 59 = .ok (.iconst 4, 1) := by decide +kernel
theorem dL_protests_60 : decode cL_protests 60 = .ok (.ishr, 1) := by decide +kernel
theorem dL_protests_61 : decode cL_protests 61 = .ok (.iconst 3, 1) := by decide +kernel
theorem dL_protests_62 : decode cL_protests 62 = .ok (.invokestatic 75, 3) := by decide +kernel
theorem dL_protests_65 : decode cL_protests 65 = .ok (.lookupswitch 190 #[(0, 27), (1, 100)], 27) := by decide +kernel
theorem dL_protests_92 : decode cL_protests 92 = .ok (.aload_n 0, 1) := by decide +kernel
theorem dL_protests_93 : decode cL_protests 93 = .ok (.iload 4, 2) := by decide +kernel
theorem dL_protests_95 : decode cL_protests 95 = .ok (.invokevirtual 97, 3) := by decide +kernel
theorem dL_protests_98 : decode cL_protests 98 = .ok (.istore 7, 2) := by decide +kernel
theorem dL_protests_100 : decode cL_protests 100 = .ok (.iload 7, 2) := by decide +kernel
theorem dL_protests_102 : decode cL_protests 102 = .ok (.bipush (-4), 2) := by decide +kernel
theorem dL_protests_104 : decode cL_protests 104 = .ok (.if_icmp .ne 23, 3) := by decide +kernel
theorem dL_protests_107 : decode cL_protests 107 = .ok (.aload_n 0, 1) := by decide +kernel
theorem dL_protests_108 : decode cL_protests 108 = .ok (.iload 4, 2) := by decide +kernel
theorem dL_protests_110 : decode cL_protests 110 = .ok (.iconst 3, 1) := by decide +kernel
theorem dL_protests_111 : decode cL_protests 111 = .ok (.invokevirtual 40, 3) := by decide +kernel
theorem dL_protests_114 : decode cL_protests 114 = .ok (.iload 5, 2) := by decide +kernel
theorem dL_protests_116 : decode cL_protests 116 = .ok (.if_icmp .ne 7, 3) := by decide +kernel
theorem dL_protests_119 : decode cL_protests 119 = .ok (.iconst 1, 1) := by decide +kernel
theorem dL_protests_120 : decode cL_protests 120 = .ok (.goto 44, 3) := by decide +kernel
theorem dL_protests_123 : decode cL_protests 123 = .ok (.iconst 0, 1) := by decide +kernel
theorem dL_protests_124 : decode cL_protests 124 = .ok (.goto 40, 3) := by decide +kernel
theorem dL_protests_127 : decode cL_protests 127 = .ok (.iload 5, 2) := by decide +kernel
theorem dL_protests_129 : decode cL_protests 129 = .ok (.ifCond .ne 34, 3) := by decide +kernel
theorem dL_protests_132 : decode cL_protests 132 = .ok (.iload 7, 2) := by decide +kernel
theorem dL_protests_134 : decode cL_protests 134 = .ok (.ifCond .lt 29, 3) := by decide +kernel
theorem dL_protests_137 : decode cL_protests 137 = .ok (.iload 7, 2) := by decide +kernel
theorem dL_protests_139 : decode cL_protests 139 = .ok (.aload_n 0, 1) := by decide +kernel
theorem dL_protests_140 : decode cL_protests 140 = .ok (.bipush 6, 2) := by decide +kernel
theorem dL_protests_142 : decode cL_protests 142 = .ok (.invokevirtual 20, 3) := by decide +kernel
theorem dL_protests_145 : decode cL_protests 145 = .ok (.if_icmp .gt 18, 3) := by decide +kernel
theorem dL_protests_148 : decode cL_protests 148 = .ok (.aload_n 0, 1) := by decide +kernel
theorem dL_protests_149 : decode cL_protests 149 = .ok (.iload 4, 2) := by decide +kernel
theorem dL_protests_151 : decode cL_protests 151 = .ok (.iconst 3, 1) := by decide +kernel
theorem dL_protests_152 : decode cL_protests 152 = .ok (.invokevirtual 40, 3) := by decide +kernel
theorem dL_protests_155 : decode cL_protests 155 = .ok (.iconst 1, 1) := by decide +kernel
theorem dL_protests_156 : decode cL_protests 156 = .ok (.if_icmp .ne 7, 3) := by decide +kernel
theorem dL_protests_159 : decode cL_protests 159 = .ok (.iconst 1, 1) := by decide +kernel
theorem dL_protests_160 : decode cL_protests 160 = .ok (.goto 4, 3) := by decide +kernel
theorem dL_protests_163 : decode cL_protests 163 = .ok (.iconst 0, 1) := by decide +kernel
theorem dL_protests_164 : decode cL_protests 164 = .ok (.ireturn, 1) := by decide +kernel
theorem dL_protests_165 : decode cL_protests 165 = .ok (.aload_n 0, 1) := by decide +kernel
theorem dL_protests_166 : decode cL_protests 166 = .ok (.iload_n 3, 1) := by decide +kernel
theorem dL_protests_167 : decode cL_protests 167 = .ok (.iload 6, 2) := by decide +kernel
theorem dL_protests_169 : decode cL_protests 169 = .ok (.iconst 3, 1) := by decide +kernel
theorem dL_protests_170 : decode cL_protests 170 = .ok (.invokevirtual 10, 3) := by decide +kernel
theorem dL_protests_173 : decode cL_protests 173 = .ok (.istore 7, 2) := by decide +kernel
theorem dL_protests_175 : decode cL_protests 175 = .ok (.iload 5, 2) := by decide +kernel
theorem dL_protests_177 : decode cL_protests 177 = .ok (.iconst 2, 1) := by decide +kernel
theorem dL_protests_178 : decode cL_protests 178 = .ok (.if_icmp .ge 19, 3) := by decide +kernel
theorem dL_protests_181 : decode cL_protests 181 = .ok (.aload_n 0, 1) := by decide +kernel
theorem dL_protests_182 : decode cL_protests 182 = .ok (.iload_n 3, 1) := by decide +kernel
theorem dL_protests_183 : decode cL_protests 183 = .ok (.iload 6, 2) := by decide +kernel
theorem dL_protests_185 : decode cL_protests 185 = .ok (.iconst 0, 1) := by decide +kernel
theorem dL_protests_186 : decode cL_protests 186 = .ok (.invokevirtual 10, 3) := by decide +kernel
theorem dL_protests_189 : decode cL_protests 189 = .ok (.iconst 4, 1) := by decide +kernel
theorem dL_protests_190 : decode cL_protests 190 = .ok (.if_icmp .eq 7, 3) := by decide +kernel
theorem dL_protests_193 : decode cL_protests 193 = .ok (.iconst 1, 1) := by decide +kernel
theorem dL_protests_194 : decode cL_protests 194 = .ok (.goto 4, 3) := by decide +kernel
theorem dL_protests_197 : decode cL_protests 197 = .ok (.iconst 0, 1) := by decide +kernel
theorem dL_protests_198 : decode cL_protests 198 = .ok (.istore 8, 2) := by decide +kernel
theorem dL_protests_200 : decode cL_protests 200 = .ok (.aload_n 0, 1) := by decide +kernel
theorem dL_protests_201 : decode cL_protests 201 = .ok (.iload 4, 2) := by decide +kernel
theorem dL_protests_203 : decode cL_protests 203 = .ok (.invokevirtual 100, 3) := by decide +kernel
theorem dL_protests_206 : decode cL_protests 206 = .ok (.iload 8, 2) := by decide +kernel
theorem dL_protests_208 : decode cL_protests 208 = .ok (.ifCond .eq 15, 3) := by decide +kernel
theorem dL_protests_211 : decode cL_protests 211 = .ok (.iload 7, 2) := by decide +kernel
theorem dL_protests_213 : decode cL_protests 213 = .ok (.aload_n 0, 1) := by decide +kernel
theorem dL_protests_214 : decode cL_protests 214 = .ok (.bipush 7, 2) := by decide +kernel
theorem dL_protests_216 : decode cL_protests 216 = .ok (.invokevirtual 20, 3) := by decide +kernel
theorem dL_protests_219 : decode cL_protests 219 = .ok (.iadd, 1) := by decide +kernel
theorem dL_protests_220 : decode cL_protests 220 = .ok (.goto 5, 3) := by decide +kernel
theorem dL_protests_223 : decode cL_protests 223 = .ok (.bipush (-4), 2) := by decide +kernel
theorem dL_protests_225 : decode cL_protests 225 = .ok (.if_icmp .ne 28, 3) := by decide +kernel
theorem dL_protests_228 : decode cL_protests 228 = .ok (.aload_n 0, 1) := by decide +kernel
theorem dL_protests_229 : decode cL_protests 229 = .ok (.iload 4, 2) := by decide +kernel
theorem dL_protests_231 : decode cL_protests 231 = .ok (.iconst 3, 1) := by decide +kernel
theorem dL_protests_232 : decode cL_protests 232 = .ok (.invokevirtual 40, 3) := by decide +kernel
theorem dL_protests_235 : decode cL_protests 235 = .ok (.iload 8, 2) := by decide +kernel
theorem dL_protests_237 : decode cL_protests 237 = .ok (.ifCond .eq 7, 3) := by decide +kernel
theorem dL_protests_240 : decode cL_protests 240 = .ok (.iconst 2, 1) := by decide +kernel
theorem dL_protests_241 : decode cL_protests 241 = .ok (.goto 5, 3) := by decide +kernel
theorem dL_protests_244 : decode cL_protests 244 = .ok (.iload 5, 2) := by decide +kernel
theorem dL_protests_246 : decode cL_protests 246 = .ok (.if_icmp .ne 7, 3) := by decide +kernel
theorem dL_protests_249 : decode cL_protests 249 = .ok (.iconst 1, 1) := by decide +kernel
theorem dL_protests_250 : decode cL_protests 250 = .ok (.goto 4, 3) := by decide +kernel
theorem dL_protests_253 : decode cL_protests 253 = .ok (.iconst 0, 1) := by decide +kernel
theorem dL_protests_254 : decode cL_protests 254 = .ok (.ireturn, 1) := by decide +kernel
theorem dL_protests_255 : decode cL_protests 255 = .ok (.iload_n 1, 1) := by decide +kernel
theorem dL_protests_256 : decode cL_protests 256 = .ok (.bipush 6, 2) := by decide +kernel
theorem dL_protests_258 : decode cL_protests 258 = .ok (.ishr, 1) := by decide +kernel
theorem dL_protests_259 : decode cL_protests 259 = .ok (.iconst 2, 1) := by decide +kernel
theorem dL_protests_260 : decode cL_protests 260 = .ok (.invokestatic 75, 3) := by decide +kernel
theorem dL_protests_263 : decode cL_protests 263 = .ok (.ifCond .ne 7, 3) := by decide +kernel
theorem dL_protests_266 : decode cL_protests 266 = .ok (.iconst 1, 1) := by decide +kernel
theorem dL_protests_267 : decode cL_protests 267 = .ok (.goto 4, 3) := by decide +kernel
theorem dL_protests_270 : decode cL_protests 270 = .ok (.iconst 0, 1) := by decide +kernel
theorem dL_protests_271 : decode cL_protests 271 = .ok (.istore 7, 2) := by decide +kernel
theorem dL_protests_273 : decode cL_protests 273 = .ok (.aload_n 0, 1) := by decide +kernel
theorem dL_protests_274 : decode cL_protests 274 = .ok (.iload 4, 2) := by decide +kernel
theorem dL_protests_276 : decode cL_protests 276 = .ok (.iload 7, 2) := by decide +kernel
theorem dL_protests_278 : decode cL_protests 278 = .ok (.invokevirtual 103, 3) := by decide +kernel
theorem dL_protests_281 : decode cL_protests 281 = .ok (.istore 8, 2) := by decide +kernel
theorem dL_protests_283 : decode cL_protests 283 = .ok (.iload 5, 2) := by decide +kernel
theorem dL_protests_285 : decode cL_protests 285 = .ok (.iconst 1, 1) := by decide +kernel
theorem dL_protests_286 : decode cL_protests 286 = .ok (.if_icmp .ne 42, 3) := by decide +kernel
theorem dL_protests_289 : decode cL_protests 289 = .ok (.iload 8, 2) := by decide +kernel
theorem dL_protests_291 : decode cL_protests 291 = .ok (.aload_n 0, 1) := by decide +kernel
theorem dL_protests_292 : decode cL_protests 292 = .ok (.iload_n 3, 1) := by decide +kernel
theorem dL_protests_293 : decode cL_protests 293 = .ok (.iconst 5, 1) := by decide +kernel
theorem dL_protests_294 : decode cL_protests 294 = .ok (.invokevirtual 16, 3) := by decide +kernel
theorem dL_protests_297 : decode cL_protests 297 = .ok (.if_icmp .ne 27, 3) := by decide +kernel
theorem dL_protests_300 : decode cL_protests 300 = .ok (.aload_n 0, 1) := by decide +kernel
theorem dL_protests_301 : decode cL_protests 301 = .ok (.iload 4, 2) := by decide +kernel
theorem dL_protests_303 : decode cL_protests 303 = .ok (.iconst 3, 1) := by decide +kernel
theorem dL_protests_304 : decode cL_protests 304 = .ok (.invokevirtual 40, 3) := by decide +kernel
theorem dL_protests_307 : decode cL_protests 307 = .ok (.iload 7, 2) := by decide +kernel
theorem dL_protests_309 : decode cL_protests 309 = .ok (.ifCond .eq 7, 3) := by decide +kernel
theorem dL_protests_312 : decode cL_protests 312 = .ok (.iconst 3, 1) := by decide +kernel
theorem dL_protests_313 : decode cL_protests 313 = .ok (.goto 4, 3) := by decide +kernel
theorem dL_protests_316 : decode cL_protests 316 = .ok (.iconst 4, 1) := by decide +kernel
theorem dL_protests_317 : decode cL_protests 317 = .ok (.if_icmp .ne 7, 3) := by decide +kernel
theorem dL_protests_320 : decode cL_protests 320 = .ok (.iconst 1, 1) := by decide +kernel
theorem dL_protests_321 : decode cL_protests 321 = .ok (.goto 31, 3) := by decide +kernel
theorem dL_protests_324 : decode cL_protests 324 = .ok (.iconst 0, 1) := by decide +kernel
theorem dL_protests_325 : decode cL_protests 325 = .ok (.goto 27, 3) := by decide +kernel
theorem dL_protests_328 : decode cL_protests 328 = .ok (.iload 8, 2) := by decide +kernel
theorem dL_protests_330 : decode cL_protests 330 = .ok (.bipush (-4), 2) := by decide +kernel
theorem dL_protests_332 : decode cL_protests 332 = .ok (.if_icmp .ne 19, 3) := by decide +kernel
theorem dL_protests_335 : decode cL_protests 335 = .ok (.aload_n 0, 1) := by decide +kernel
theorem dL_protests_336 : decode cL_protests 336 = .ok (.iload 4, 2) := by decide +kernel
theorem dL_protests_338 : decode cL_protests 338 = .ok (.iconst 3, 1) := by decide +kernel
theorem dL_protests_339 : decode cL_protests 339 = .ok (.invokevirtual 40, 3) := by decide +kernel
theorem dL_protests_342 : decode cL_protests 342 = .ok (.iload 5, 2) := by decide +kernel
theorem dL_protests_344 : decode cL_protests 344 = .ok (.if_icmp .ne 7, 3) := by decide +kernel
theorem dL_protests_347 : decode cL_protests 347 = .ok (.iconst 1, 1) := by decide +kernel
theorem dL_protests_348 : decode cL_protests 348 = .ok (.goto 4, 3) := by decide +kernel
theorem dL_protests_351 : decode cL_protests 351 = .ok (.iconst 0, 1) := by decide +kernel
theorem dL_protests_352 : decode cL_protests 352 = .ok (.ireturn, 1) := by decide +kernel
theorem dL_act_0 : decode cL_act 0 = .ok (.aload_n 0, 1) := by decide +kernel
theorem dL_act_1 : decode cL_act 1 = .ok (.iconst 0, 1) := by decide +kernel
theorem dL_act_2 : decode cL_act 2 = .ok (.invokevirtual 20, 3) := by decide +kernel
theorem dL_act_5 : decode cL_act 5 = .ok (.istore 4, 2) := by decide +kernel
theorem dL_act_7 : decode cL_act 7 = .ok (.iload_n 1, 1) := by decide +kernel
theorem dL_act_8 : decode cL_act 8 = .ok (.bipush 30, 2) := by decide +kernel
theorem dL_act_10 : decode cL_act 10 = .ok (.invokestatic 75, 3) := by decide +kernel
theorem dL_act_13 : decode cL_act 13 = .ok (.istore 5, 2) := by decide +kernel
theorem dL_act_15 : decode cL_act 15 = .ok (.iload 4, 2) := by decide +kernel
theorem dL_act_17 : decode cL_act 17 = .ok (.ifCond .eq 18, 3) := by decide +kernel
theorem dL_act_20 : decode cL_act 20 = .ok (.aload_n 0, 1) := by decide +kernel
theorem dL_act_21 : decode cL_act 21 = .ok (.iconst 1, 1) := by decide +kernel
theorem dL_act_22 : decode cL_act 22 = .ok (.invokevirtual 20, 3) := by decide +kernel
theorem dL_act_25 : decode cL_act 25 = .ok (.ifCond .ne 69, 3) := by decide +kernel
theorem dL_act_28 : decode cL_act 28 = .ok (.iload 5, 2) := by decide +kernel
theorem dL_act_30 : decode cL_act 30 = .ok (.bipush 15, 2) := by decide +kernel
theorem dL_act_32 : decode cL_act 32 = .ok (.if_icmp .ge 62, 3) := by decide +kernel
theorem dL_act_35 : decode cL_act 35 = .ok (.bipush 50, 2) := by decide +kernel
theorem dL_act_37 : decode cL_act 37 = .ok (.iload_n 2, 1) := by decide +kernel
theorem dL_act_38 : decode cL_act 38 = .ok (.bipush 101, 2) := by decide +kernel
theorem dL_act_40 : decode cL_act 40 = .ok (.invokestatic 75, 3) := by decide +kernel
theorem dL_act_43 : decode cL_act 43 = .ok (.iadd, 1) := by decide +kernel
theorem dL_act_44 : decode cL_act 44 = .ok (.istore 6, 2) := by decide +kernel
theorem dL_act_46 : decode cL_act 46 = .ok (.aload_n 0, 1) := by decide +kernel
theorem dL_act_47 : decode cL_act 47 = .ok (.iload 6, 2) := by decide +kernel
theorem dL_act_49 : decode cL_act 49 = .ok (.invokevirtual 107, 3) := by decide +kernel
theorem dL_act_52 : decode cL_act 52 = .ok (.iload 4, 2) := by decide +kernel
theorem dL_act_54 : decode cL_act 54 = .ok (.bipush 9, 2) := by decide +kernel
theorem dL_act_56 : decode cL_act 56 = .ok (.if_icmp .ne 8, 3) := by decide +kernel
theorem dL_act_59 : decode cL_act 59 = .ok (.bipush (-3), 2) := by decide +kernel
theorem dL_act_61 : decode cL_act 61 = .ok (.goto 5, 3) := by decide +kernel
theorem dL_act_64 : decode cL_act 64 = .ok (.iload 4, 2) := by decide +kernel
theorem dL_act_66 : decode cL_act 66 = .ok (.if_icmp .ne 26, 3) := by decide +kernel
theorem dL_act_69 : decode cL_act 69 = .ok (.iload 4, 2) := by decide +kernel
theorem dL_act_71 : decode cL_act 71 = .ok (.bipush 9, 2) := by decide +kernel
theorem dL_act_73 : decode cL_act 73 = .ok (.if_icmp .eq 15, 3) := by decide +kernel
theorem dL_act_76 : decode cL_act 76 = .ok (.aload_n 0, 1) := by decide +kernel
theorem dL_act_77 : decode cL_act 77 = .ok (.iload 4, 2) := by decide +kernel
theorem dL_act_79 : decode cL_act 79 = .ok (.iconst 0, 1) := by decide +kernel
theorem dL_act_80 : decode cL_act 80 = .ok (.invokevirtual 24, 3) := by decide +kernel
theorem dL_act_83 : decode cL_act 83 = .ok (.iload 6, 2) := by decide +kernel
theorem dL_act_85 : decode cL_act 85 = .ok (.if_icmp .ne 7, 3) := by decide +kernel
theorem dL_act_88 : decode cL_act 88 = .ok (.iconst 1, 1) := by decide +kernel
theorem dL_act_89 : decode cL_act 89 = .ok (.goto 4, 3) := by decide +kernel
theorem dL_act_92 : decode cL_act 92 = .ok (.iconst 0, 1) := by decide +kernel
theorem dL_act_93 : decode cL_act 93 = .ok (.ireturn, 1) := by decide +kernel
theorem dL_act_94 : decode cL_act 94 = .ok (.iload 5, 2) := by decide +kernel
theorem dL_act_96 : decode cL_act 96 = .ok (.bipush 14, 2) := by decide +kernel
theorem dL_act_98 : decode cL_act 98 = .ok (.if_icmp .ge 17, 3) := by decide +kernel
theorem dL_act_101 : decode cL_act 101 = .ok (.aload_n 0, 1) := by decide +kernel
theorem dL_act_102 : decode cL_act 102 = .ok (.iload_n 2, 1) := by decide +kernel
theorem dL_act_103 : decode cL_act 103 = .ok (.iload 4, 2) := by decide +kernel
theorem dL_act_105 : decode cL_act 105 = .ok (.invokestatic 75, 3) := by decide +kernel
theorem dL_act_108 : decode cL_act 108 = .ok (.iload_n 2, 1) := by decide +kernel
theorem dL_act_109 : decode cL_act 109 = .ok (.iconst 4, 1) := by decide +kernel
theorem dL_act_110 : decode cL_act 110 = .ok (.ishr, 1) := by decide +kernel
theorem dL_act_111 : decode cL_act 111 = .ok (.invokestatic 110, 3) := by decide +kernel
theorem dL_act_114 : decode cL_act 114 = .ok (.ireturn, 1) := by decide +kernel
theorem dL_act_115 : decode cL_act 115 = .ok (.iload 5, 2) := by decide +kernel
theorem dL_act_117 : decode cL_act 117 = .ok (.bipush 18, 2) := by decide +kernel
theorem dL_act_119 : decode cL_act 119 = .ok (.if_icmp .ge 57, 3) := by decide +kernel
theorem dL_act_122 : decode cL_act 122 = .ok (.aload_n 0, 1) := by decide +kernel
theorem dL_act_123 : decode cL_act 123 = .ok (.iconst 3, 1) := by decide +kernel
theorem dL_act_124 : decode cL_act 124 = .ok (.invokevirtual 20, 3) := by decide +kernel
theorem dL_act_127 : decode cL_act 127 = .ok (.istore 6, 2) := by decide +kernel
theorem dL_act_129 : decode cL_act 129 = .ok (.iconst 1, 1) := by decide +kernel
theorem dL_act_130 : decode cL_act 130 = .ok (.iload_n 2, 1) := by decide +kernel
theorem dL_act_131 : decode cL_act 131 = .ok (.iload_n 2, 1) := by decide +kernel
theorem dL_act_132 : decode cL_act 132 = .ok (.bipush 8, 2) := by decide +kernel
theorem dL_act_134 : decode cL_act 134 = .ok (.ishr, 1) := by decide +kernel
theorem dL_act_135 : decode cL_act 135 = .ok (.iconst 2, 1) := by decide +kernel
theorem dL_act_136 : decode cL_act 136 = .ok (.invokestatic 75, 3) := by decide +kernel
theorem dL_act_139 : decode cL_act 139 = .ok (.ifCond .ne 8, 3) := by decide +kernel
theorem dL_act_142 : decode cL_act 142 = .ok (.bipush 20, 2) := by decide +kernel
theorem dL_act_144 : decode cL_act 144 = .ok (.goto 6, 3) := by decide +kernel
theorem dL_act_147 : decode cL_act 147 = .ok (.sipush 130, 3) := by decide +kernel
theorem dL_act_150 : decode cL_act 150 = .ok (.invokestatic 75, 3) := by decide +kernel
theorem dL_act_153 : decode cL_act 153 = .ok (.iadd, 1) := by decide +kernel
theorem dL_act_154 : decode cL_act 154 = .ok (.istore 7, 2) := by decide +kernel
theorem dL_act_156 : decode cL_act 156 = .ok (.aload_n 0, 1) := by decide +kernel
theorem dL_act_157 : decode cL_act 157 = .ok (.iload 7, 2) := by decide +kernel
theorem dL_act_159 : decode cL_act 159 = .ok (.invokevirtual 63, 3) := by decide +kernel
theorem dL_act_162 : decode cL_act 162 = .ok (.iload 6, 2) := by decide +kernel
theorem dL_act_164 : decode cL_act 164 = .ok (.iload 7, 2) := by decide +kernel
theorem dL_act_166 : decode cL_act 166 = .ok (.iadd, 1) := by decide +kernel
theorem dL_act_167 : decode cL_act 167 = .ok (.if_icmp .ne 7, 3) := by decide +kernel
theorem dL_act_170 : decode cL_act 170 = .ok (.iconst 1, 1) := by decide +kernel
theorem dL_act_171 : decode cL_act 171 = .ok (.goto 4, 3) := by decide +kernel
theorem dL_act_174 : decode cL_act 174 = .ok (.iconst 0, 1) := by decide +kernel
theorem dL_act_175 : decode cL_act 175 = .ok (.ireturn, 1) := by decide +kernel
theorem dL_act_176 : decode cL_act 176 = .ok (.iload 5, 2) := by decide +kernel
theorem dL_act_178 : decode cL_act 178 = .ok (.bipush 23, 2) := by decide +kernel
theorem dL_act_180 : decode cL_act 180 = .ok (.if_icmp .ge 26, 3) := by decide +kernel
theorem dL_act_183 : decode cL_act 183 = .ok (.aload_n 0, 1) := by decide +kernel
theorem dL_act_184 : decode cL_act 184 = .ok (.iload 5, 2) := by decide +kernel
theorem dL_act_186 : decode cL_act 186 = .ok (.bipush 20, 2) := by decide +kernel
theorem dL_act_188 : decode cL_act 188 = .ok (.if_icmp .ge 7, 3) := by decide +kernel
theorem dL_act_191 : decode cL_act 191 = .ok (.iconst 0, 1) := by decide +kernel
theorem dL_act_192 : decode cL_act 192 = .ok (.goto 8, 3) := by decide +kernel
theorem dL_act_195 : decode cL_act 195 = .ok (.iload 5, 2) := by decide +kernel
theorem dL_act_197 : decode cL_act 197 = .ok (.bipush 19, 2) := by decide +kernel
theorem dL_act_199 : decode cL_act 199 = .ok (.isub, 1) := by decide +kernel
theorem dL_act_200 : decode cL_act 200 = .ok (.iload_n 2, 1) := by decide +kernel
theorem dL_act_201 : decode cL_act 201 = .ok (.aload_n 3, 1) := by decide +kernel
theorem dL_act_202 : decode cL_act 202 = .ok (.invokestatic 113, 3) := by decide +kernel
theorem dL_act_205 : decode cL_act 205 = .ok (.ireturn, 1) := by decide +kernel
theorem dL_act_206 : decode cL_act 206 = .ok (.iload 5, 2) := by decide +kernel
theorem dL_act_208 : decode cL_act 208 = .ok (.bipush 23, 2) := by decide +kernel
theorem dL_act_210 : decode cL_act 210 = .ok (.if_icmp .ne 102, 3) := by decide +kernel
theorem dL_act_213 : decode cL_act 213 = .ok (.iload_n 2, 1) := by decide +kernel
theorem dL_act_214 : decode cL_act 214 = .ok (.iconst 3, 1) := by decide +kernel
theorem dL_act_215 : decode cL_act 215 = .ok (.invokestatic 75, 3) := by decide +kernel
theorem dL_act_218 : decode cL_act 218 = .ok (.istore 6, 2) := by decide +kernel
theorem dL_act_220 : decode cL_act 220 = .ok (.iload 6, 2) := by decide +kernel
theorem dL_act_222 : decode cL_act 222 = .ok (.ifCond .ne 16, 3) := by decide +kernel
theorem dL_act_225 : decode cL_act 225 = .ok (.iconst 1, 1) := by decide +kernel
theorem dL_act_226 : decode cL_act 226 = .ok (.iload_n 2, 1) := by decide +kernel
theorem dL_act_227 : decode cL_act 227 = .ok (.iconst 2, 1) := by decide +kernel
theorem dL_act_228 : decode cL_act 228 = .ok (.ishr, 1) := by decide +kernel
theorem dL_act_229 : decode cL_act 229 = .ok (.bipush 100, 2) := by decide +kernel
theorem dL_act_231 : decode cL_act 231 = .ok (.invokestatic 75, 3) := by decide +kernel
theorem dL_act_234 : decode cL_act 234 = .ok (.iadd, 1) := by decide +kernel
theorem dL_act_235 : decode cL_act 235 = .ok (.goto 31, 3) := by decide +kernel
theorem dL_act_238 : decode cL_act 238 = .ok (.iload 6, 2) := by decide +kernel
theorem dL_act_240 : decode cL_act 240 = .ok (.iconst 1, 1) := by decide +kernel
theorem dL_act_241 : decode cL_act 241 = .ok (.if_icmp .ne 17, 3) := by decide +kernel
theorem dL_act_244 : decode cL_act 244 = .ok (.iconst 1, 1) := by decide +kernel
theorem dL_act_245 : decode cL_act 245 = .ok (.iload_n 2, 1) := by decide +kernel
theorem dL_act_246 : decode cL_act 246 = .ok (.iconst 2, 1) := by decide +kernel
theorem dL_act_247 : decode cL_act 247 = .ok (.ishr, 1) := by decide +kernel
theorem dL_act_248 : decode cL_act 248 = .ok (.sipush 300, 3) := by decide +kernel
theorem dL_act_251 : decode cL_act 251 = .ok (.invokestatic 75, 3) := by decide +kernel
theorem dL_act_254 : decode cL_act 254 = .ok (.iadd, 1) := by decide +kernel
theorem dL_act_255 : decode cL_act 255 = .ok (.goto 11, 3) := by decide +kernel
theorem dL_act_258 : decode cL_act 258 = .ok (.iload_n 2, 1) := by decide +kernel
theorem dL_act_259 : decode cL_act 259 = .ok (.iconst 2, 1) := by decide +kernel
theorem dL_act_260 : decode cL_act 260 = .ok (.ishr, 1) := by decide +kernel
theorem dL_act_261 : decode cL_act 261 = .ok (.bipush 7, 2) := by decide +kernel
theorem dL_act_263 : decode cL_act 263 = .ok (.invokestatic 75, 3) := by decide +kernel
theorem dL_act_266 : decode cL_act 266 = .ok (.istore 7, 2) := by decide +kernel
theorem dL_act_268 : decode cL_act 268 = .ok (.aload_n 0, 1) := by decide +kernel
theorem dL_act_269 : decode cL_act 269 = .ok (.bipush 6, 2) := by decide +kernel
theorem dL_act_271 : decode cL_act 271 = .ok (.iload 6, 2) := by decide +kernel
theorem dL_act_273 : decode cL_act 273 = .ok (.iadd, 1) := by decide +kernel
theorem dL_act_274 : decode cL_act 274 = .ok (.invokevirtual 20, 3) := by decide +kernel
theorem dL_act_277 : decode cL_act 277 = .ok (.istore 8, 2) := by decide +kernel
theorem dL_act_279 : decode cL_act 279 = .ok (.aload_n 0, 1) := by decide +kernel
theorem dL_act_280 : decode cL_act 280 = .ok (.iload 6, 2) := by decide +kernel
theorem dL_act_282 : decode cL_act 282 = .ok (.iload 7, 2) := by decide +kernel
theorem dL_act_284 : decode cL_act 284 = .ok (.invokevirtual 117, 3) := by decide +kernel
theorem dL_act_287 : decode cL_act 287 = .ok (.iload 8, 2) := by decide +kernel
theorem dL_act_289 : decode cL_act 289 = .ok (.if_icmp .ne 21, 3) := by decide +kernel
theorem dL_act_292 : decode cL_act 292 = .ok (.aload_n 0, 1) := by decide +kernel
theorem dL_act_293 : decode cL_act 293 = .ok (.bipush 6, 2) := by decide +kernel
theorem dL_act_295 : decode cL_act 295 = .ok (.iload 6, 2) := by decide +kernel
theorem dL_act_297 : decode cL_act 297 = .ok (.iadd, 1) := by decide +kernel
theorem dL_act_298 : decode cL_act 298 = .ok (.invokevirtual 20, 3) := by decide +kernel
theorem dL_act_301 : decode cL_act 301 = .ok (.iload 7, 2) := by decide +kernel
theorem dL_act_303 : decode cL_act 303 = .ok (.if_icmp .ne 7, 3) := by decide +kernel
theorem dL_act_306 : decode cL_act 306 = .ok (.iconst 1, 1) := by decide +kernel
theorem dL_act_307 : decode cL_act 307 = .ok (.goto 4, 3) := by decide +kernel
theorem dL_act_310 : decode cL_act 310 = .ok (.iconst 0, 1) := by decide +kernel
theorem dL_act_311 : decode cL_act 311 = .ok (.ireturn, 1) := by decide +kernel
theorem dL_act_312 : decode cL_act 312 = .ok (.iload 5, 2) := by decide +kernel
theorem dL_act_314 : decode cL_act 314 = .ok (.bipush 27, 2) := by decide +kernel
theorem dL_act_316 : decode cL_act 316 = .ok (.if_icmp .ge 135, 3) := by decide +kernel
theorem dL_act_319 : decode cL_act 319 = .ok (.iload_n 2, 1) := by decide +kernel
theorem dL_act_320 : decode cL_act 320 = .ok (.iload 4, 2) := by decide +kernel
theorem dL_act_322 : decode cL_act 322 = .ok (.invokestatic 75, 3) := by decide +kernel
theorem dL_act_325 : decode cL_act 325 = .ok (.istore 6, 2) := by decide +kernel
theorem dL_act_327 : decode cL_act 327 = .ok (.iload_n 2, 1) := by decide +kernel
theorem dL_act_328 : decode cL_act 328 = .ok (.iconst 4, 1) := by decide +kernel
theorem dL_act_329 : decode cL_act 329 = .ok (.ishr, 1) := by decide +kernel
theorem dL_act_330 : decode cL_act 330 = .ok (.iload 4, 2) := by decide +kernel
theorem dL_act_332 : decode cL_act 332 = .ok (.invokestatic 75, 3) := by decide +kernel
theorem dL_act_335 : decode cL_act 335 = .ok (.istore 7, 2) := by decide +kernel
theorem dL_act_337 : decode cL_act 337 = .ok (.aload_n 0, 1) := by decide +kernel
theorem dL_act_338 : decode cL_act 338 = .ok (.iconst 5, 1) := by decide +kernel
theorem dL_act_339 : decode cL_act 339 = .ok (.invokevirtual 20, 3) := by decide +kernel
theorem dL_act_342 : decode cL_act 342 = .ok (.istore 8, 2) := by decide +kernel
theorem dL_act_344 : decode cL_act 344 = .ok (.aload_n 0, 1) := by decide +kernel
theorem dL_act_345 : decode cL_act 345 = .ok (.iload 6, 2) := by decide +kernel
theorem dL_act_347 : decode cL_act 347 = .ok (.iload 7, 2) := by decide +kernel
theorem dL_act_349 : decode cL_act 349 = .ok (.invokevirtual 120, 3) := by decide +kernel
theorem dL_act_352 : decode cL_act 352 = .ok (.istore 9, 2) := by decide +kernel
theorem dL_act_354 : decode cL_act 354 = .ok (.iload 9, 2) := by decide +kernel
theorem dL_act_356 : decode cL_act 356 = .ok (.ifCond .ge 48, 3) := by decide +kernel
theorem dL_act_359 : decode cL_act 359 = .ok (.iload 9, 2) := by decide +kernel
theorem dL_act_361 : decode cL_act 361 = .ok (.bipush (-2), 2) := by decide +kernel
theorem dL_act_363 : decode cL_act 363 = .ok (.if_icmp .ne 7, 3) := by decide +kernel
theorem dL_act_366 : decode cL_act 366 = .ok (.iconst 1, 1) := by decide +kernel
theorem dL_act_367 : decode cL_act 367 = .ok (.goto 4, 3) := by decide +kernel
theorem dL_act_370 : decode cL_act 370 = .ok (.iconst 0, 1) := by decide +kernel
theorem dL_act_371 : decode cL_act 371 = .ok (.iload 6, 2) := by decide +kernel
theorem dL_act_373 : decode cL_act 373 = .ok (.iload 7, 2) := by decide +kernel
theorem dL_act_375 : decode cL_act 375 = .ok (.if_icmp .ne 7, 3) := by decide +kernel
theorem dL_act_378 : decode cL_act 378 = .ok (.iconst 1, 1) := by decide +kernel
theorem dL_act_379 : decode cL_act 379 = .ok (.goto 4, 3) := by decide +kernel
theorem dL_act_382 : decode cL_act 382 = .ok (.iconst 0, 1) := by decide +kernel
theorem dL_act_383 : decode cL_act 383 = .ok (.if_icmp .ne 17, 3) := by decide +kernel
theorem dL_act_386 : decode cL_act 386 = .ok (.aload_n 0, 1) := by decide +kernel
theorem dL_act_387 : decode cL_act 387 = .ok (.iconst 5, 1) := by decide +kernel
theorem dL_act_388 : decode cL_act 388 = .ok (.invokevirtual 20, 3) := by decide +kernel
theorem dL_act_391 : decode cL_act 391 = .ok (.iload 8, 2) := by decide +kernel
theorem dL_act_393 : decode cL_act 393 = .ok (.if_icmp .ne 7, 3) := by decide +kernel
theorem dL_act_396 : decode cL_act 396 = .ok (.iconst 1, 1) := by decide +kernel
theorem dL_act_397 : decode cL_act 397 = .ok (.goto 53, 3) := by decide +kernel
theorem dL_act_400 : decode cL_act 400 = .ok (.iconst 0, 1) := by decide +kernel
theorem dL_act_401 : decode cL_act 401 = .ok (.goto 49, 3) := by decide +kernel
theorem dL_act_404 : decode cL_act 404 = .ok (.iload 9, 2) := by decide +kernel
theorem dL_act_406 : decode cL_act 406 = .ok (.iload 8, 2) := by decide +kernel
theorem dL_act_408 : decode cL_act 408 = .ok (.if_icmp .ne 41, 3) := by decide +kernel
theorem dL_act_411 : decode cL_act 411 = .ok (.aload_n 0, 1) := by decide +kernel
theorem dL_act_412 : decode cL_act 412 = .ok (.iload 8, 2) := by decide +kernel
theorem dL_act_414 : decode cL_act 414 = .ok (.iconst 0, 1) := by decide +kernel
theorem dL_act_415 : decode cL_act 415 = .ok (.invokevirtual 40, 3) := by decide +kernel
theorem dL_act_418 : decode cL_act 418 = .ok (.iload 6, 2) := by decide +kernel
theorem dL_act_420 : decode cL_act 420 = .ok (.if_icmp .ne 29, 3) := by decide +kernel
theorem dL_act_423 : decode cL_act 423 = .ok (.aload_n 0, 1) := by decide +kernel
theorem dL_act_424 : decode cL_act 424 = .ok (.iload 8, 2) := by decide +kernel
theorem dL_act_426 : decode cL_act 426 = .ok (.iconst 1, 1) := by decide +kernel
theorem dL_act_427 : decode cL_act 427 = .ok (.invokevirtual 40, 3) := by decide +kernel
theorem dL_act_430 : decode cL_act 430 = .ok (.iload 7, 2) := by decide +kernel
theorem dL_act_432 : decode cL_act 432 = .ok (.if_icmp .ne 17, 3) := by decide +kernel
theorem dL_act_435 : decode cL_act 435 = .ok (.aload_n 0, 1) := by decide +kernel
theorem dL_act_436 : decode cL_act 436 = .ok (.iload 8, 2) := by decide +kernel
theorem dL_act_438 : decode cL_act 438 = .ok (.iconst 3, 1) := by decide +kernel
theorem dL_act_439 : decode cL_act 439 = .ok (.invokevirtual 40, 3) := by decide +kernel
theorem dL_act_442 : decode cL_act 442 = .ok (.ifCond .ne 7, 3) := by decide +kernel
theorem dL_act_445 : decode cL_act 445 = .ok (.iconst 1, 1) := by decide +kernel
theorem dL_act_446 : decode cL_act 446 = .ok (.goto 4, 3) := by decide +kernel
theorem dL_act_449 : decode cL_act 449 = .ok (.iconst 0, 1) := by decide +kernel
theorem dL_act_450 : decode cL_act 450 = .ok (.ireturn, 1) := by decide +kernel
theorem dL_act_451 : decode cL_act 451 = .ok (.aload_n 0, 1) := by decide +kernel
theorem dL_act_452 : decode cL_act 452 = .ok (.iload_n 2, 1) := by decide +kernel
theorem dL_act_453 : decode cL_act 453 = .ok (.invokestatic 123, 3) := by decide +kernel
theorem dL_act_456 : decode cL_act 456 = .ok (.ireturn, 1) := by decide +kernel
theorem dL_law_0 : decode cL_law 0 = .ok (.new 11, 3) := by decide +kernel
theorem dL_law_3 : decode cL_law 3 = .ok (.dup, 1) := by decide +kernel
theorem dL_law_4 : decode cL_law 4 = .ok (.invokespecial 126, 3) := by decide +kernel
theorem dL_law_7 : decode cL_law 7 = .ok (.astore_n 1, 1) := by decide +kernel
theorem dL_law_8 : decode cL_law 8 = .ok (.bipush 10, 2) := by decide +kernel
theorem dL_law_10 : decode cL_law 10 = .ok (.newarray .int, 2) := by decide +kernel
theorem dL_law_12 : decode cL_law 12 = .ok (.astore_n 2, 1) := by decide +kernel
theorem dL_law_13 : decode cL_law 13 = .ok (.aload_n 1, 1) := by decide +kernel
theorem dL_law_14 : decode cL_law 14 = .ok (.invokestatic 127, 3) := by decide +kernel
theorem dL_law_17 : decode cL_law 17 = .ok (.ifCond .eq 29, 3) := by decide +kernel
theorem dL_law_20 : decode cL_law 20 = .ok (.aload_n 1, 1) := by decide +kernel
theorem dL_law_21 : decode cL_law 21 = .ok (.invokestatic 130, 3) := by decide +kernel
theorem dL_law_24 : decode cL_law 24 = .ok (.ifCond .eq 22, 3) := by decide +kernel
theorem dL_law_27 : decode cL_law 27 = .ok (.aload_n 1, 1) := by decide +kernel
theorem dL_law_28 : decode cL_law 28 = .ok (.bipush 100, 2) := by decide +kernel
theorem dL_law_30 : decode cL_law 30 = .ok (.invokevirtual 107, 3) := by decide +kernel
theorem dL_law_33 : decode cL_law 33 = .ok (.ifCond .ne 13, 3) := by decide +kernel
theorem dL_law_36 : decode cL_law 36 = .ok (.aload_n 1, 1) := by decide +kernel
theorem dL_law_37 : decode cL_law 37 = .ok (.bipush 120, 2) := by decide +kernel
theorem dL_law_39 : decode cL_law 39 = .ok (.invokevirtual 107, 3) := by decide +kernel
theorem dL_law_42 : decode cL_law 42 = .ok (.iconst 1, 1) := by decide +kernel
theorem dL_law_43 : decode cL_law 43 = .ok (.if_icmp .eq 5, 3) := by decide +kernel
theorem dL_law_46 : decode cL_law 46 = .ok (.iconst 0, 1) := by decide +kernel
theorem dL_law_47 : decode cL_law 47 = .ok (.ireturn, 1) := by decide +kernel
theorem dL_law_48 : decode cL_law 48 = .ok (.iconst 0, 1) := by decide +kernel
theorem dL_law_49 : decode cL_law 49 = .ok (.istore_n 3, 1) := by decide +kernel
theorem dL_law_50 : decode cL_law 50 = .ok (.iload_n 3, 1) := by decide +kernel
theorem dL_law_51 : decode cL_law 51 = .ok (.bipush 80, 2) := by decide +kernel
theorem dL_law_53 : decode cL_law 53 = .ok (.if_icmp .ge 134, 3) := by decide +kernel
theorem dL_law_56 : decode cL_law 56 = .ok (.iload_n 3, 1) := by decide +kernel
theorem dL_law_57 : decode cL_law 57 = .ok (.iconst 2, 1) := by decide +kernel
theorem dL_law_58 : decode cL_law 58 = .ok (.if_icmp .ge 7, 3) := by decide +kernel
theorem dL_law_61 : decode cL_law 61 = .ok (.iconst 0, 1) := by decide +kernel
theorem dL_law_62 : decode cL_law 62 = .ok (.goto 10, 3) := by decide +kernel
theorem dL_law_65 : decode cL_law 65 = .ok (.aload_n 0, 1) := by decide +kernel
theorem dL_law_66 : decode cL_law 66 = .ok (.iconst 2, 1) := by decide +kernel
theorem dL_law_67 : decode cL_law 67 = .ok (.iload_n 3, 1) := by decide +kernel
theorem dL_law_68 : decode cL_law 68 = .ok (.imul, 1) := by decide +kernel
theorem dL_law_69 : decode cL_law 69 = .ok (.invokestatic 133, 3) := by decide +kernel
theorem dL_law_72 : decode cL_law 72 = .ok (.istore 4, 2) := by decide +kernel
theorem dL_law_74 : decode cL_law 74 = .ok (.aload_n 1, 1) := by decide +kernel
theorem dL_law_75 : decode cL_law 75 = .ok (.iconst 1, 1) := by decide +kernel
theorem dL_law_76 : decode cL_law 76 = .ok (.invokevirtual 20, 3) := by decide +kernel
theorem dL_law_79 : decode cL_law 79 = .ok (.istore 5, 2) := by decide +kernel
theorem dL_law_81 : decode cL_law 81 = .ok (.aload_n 1, 1) := by decide +kernel
theorem dL_law_82 : decode cL_law 82 = .ok (.iconst 5, 1) := by decide +kernel
theorem dL_law_83 : decode cL_law 83 = .ok (.invokevirtual 20, 3) := by decide +kernel
theorem dL_law_86 : decode cL_law 86 = .ok (.istore 6, 2) := by decide +kernel
theorem dL_law_88 : decode cL_law 88 = .ok (.aload_n 1, 1) := by decide +kernel
theorem dL_law_89 : decode cL_law 89 = .ok (.iload 4, 2) := by decide +kernel
theorem dL_law_91 : decode cL_law 91 = .ok (.aload_n 0, 1) := by decide +kernel
theorem dL_law_92 : decode cL_law 92 = .ok (.iconst 2, 1) := by decide +kernel
theorem dL_law_93 : decode cL_law 93 = .ok (.iload_n 3, 1) := by decide +kernel
theorem dL_law_94 : decode cL_law 94 = .ok (.imul, 1) := by decide +kernel
theorem dL_law_95 : decode cL_law 95 = .ok (.iconst 1, 1) := by decide +kernel
theorem dL_law_96 : decode cL_law 96 = .ok (.iadd, 1) := by decide +kernel
theorem dL_law_97 : decode cL_law 97 = .ok (.invokestatic 133, 3) := by decide +kernel
theorem dL_law_100 : decode cL_law 100 = .ok (.aload_n 2, 1) := by decide +kernel
theorem dL_law_101 : decode cL_law 101 = .ok (.invokestatic 137, 3) := by decide +kernel
theorem dL_law_104 : decode cL_law 104 = .ok (.ifCond .ne 5, 3) := by decide +kernel
theorem dL_law_107 : decode cL_law 107 = .ok (.iconst 0, 1) := by decide +kernel
theorem dL_law_108 : decode cL_law 108 = .ok (.ireturn, 1) := by decide +kernel
theorem dL_law_109 : decode cL_law 109 = .ok (.iconst 0, 1) := by decide +kernel
theorem dL_law_110 : decode cL_law 110 = .ok (.istore 7, 2) := by decide +kernel
theorem dL_law_112 : decode cL_law 112 = .ok (.iload 7, 2) := by decide +kernel
theorem dL_law_114 : decode cL_law 114 = .ok (.bipush 10, 2) := by decide +kernel
theorem dL_law_116 : decode cL_law 116 = .ok (.if_icmp .ge 34, 3) := by decide +kernel
theorem dL_law_119 : decode cL_law 119 = .ok (.aload_n 1, 1) := by decide +kernel
theorem dL_law_120 : decode cL_law 120 = .ok (.iconst 1, 1) := by decide +kernel
theorem dL_law_121 : decode cL_law 121 = .ok (.invokevirtual 20, 3) := by decide +kernel
theorem dL_law_124 : decode cL_law 124 = .ok (.iload 5, 2) := by decide +kernel
theorem dL_law_126 : decode cL_law 126 = .ok (.if_icmp .ne 13, 3) := by decide +kernel
theorem dL_law_129 : decode cL_law 129 = .ok (.aload_n 1, 1) := by decide +kernel
theorem dL_law_130 : decode cL_law 130 = .ok (.iconst 5, 1) := by decide +kernel
theorem dL_law_131 : decode cL_law 131 = .ok (.invokevirtual 20, 3) := by decide +kernel
theorem dL_law_134 : decode cL_law 134 = .ok (.iload 6, 2) := by decide +kernel
theorem dL_law_136 : decode cL_law 136 = .ok (.if_icmp .ge 14, 3) := by decide +kernel
theorem dL_law_139 : decode cL_law 139 = .ok (.aload_n 2, 1) := by decide +kernel
theorem dL_law_140 : decode cL_law 140 = .ok (.iload 7, 2) := by decide +kernel
theorem dL_law_142 : decode cL_law 142 = .ok (.iconst 0, 1) := by decide +kernel
theorem dL_law_143 : decode cL_law 143 = .ok (.iastore, 1) := by decide +kernel
theorem dL_law_144 : decode cL_law 144 = .ok (.iinc 7 1, 3) := by decide +kernel
theorem dL_law_147 : decode cL_law 147 = .ok (.goto (-35), 3) := by decide +kernel
theorem dL_law_150 : decode cL_law 150 = .ok (.aload_n 1, 1) := by decide +kernel
theorem dL_law_151 : decode cL_law 151 = .ok (.aload_n 2, 1) := by decide +kernel
theorem dL_law_152 : decode cL_law 152 = .ok (.invokestatic 140, 3) := by decide +kernel
theorem dL_law_155 : decode cL_law 155 = .ok (.ifCond .eq 24, 3) := by decide +kernel
theorem dL_law_158 : decode cL_law 158 = .ok (.iload_n 3, 1) := by decide +kernel
theorem dL_law_159 : decode cL_law 159 = .ok (.iconst 4, 1) := by decide +kernel
theorem dL_law_160 : decode cL_law 160 = .ok (.irem, 1) := by decide +kernel
theorem dL_law_161 : decode cL_law 161 = .ok (.iconst 3, 1) := by decide +kernel
theorem dL_law_162 : decode cL_law 162 = .ok (.if_icmp .ne 19, 3) := by decide +kernel
theorem dL_law_165 : decode cL_law 165 = .ok (.aload_n 1, 1) := by decide +kernel
theorem dL_law_166 : decode cL_law 166 = .ok (.invokestatic 127, 3) := by decide +kernel
theorem dL_law_169 : decode cL_law 169 = .ok (.ifCond .eq 10, 3) := by decide +kernel
theorem dL_law_172 : decode cL_law 172 = .ok (.aload_n 1, 1) := by decide +kernel
theorem dL_law_173 : decode cL_law 173 = .ok (.invokestatic 130, 3) := by decide +kernel
theorem dL_law_176 : decode cL_law 176 = .ok (.ifCond .ne 5, 3) := by decide +kernel
theorem dL_law_179 : decode cL_law 179 = .ok (.iconst 0, 1) := by decide +kernel
theorem dL_law_180 : decode cL_law 180 = .ok (.ireturn, 1) := by decide +kernel
theorem dL_law_181 : decode cL_law 181 = .ok (.iinc 3 1, 3) := by decide +kernel
theorem dL_law_184 : decode cL_law 184 = .ok (.goto (-134), 3) := by decide +kernel
theorem dL_law_187 : decode cL_law 187 = .ok (.aload_n 1, 1) := by decide +kernel
theorem dL_law_188 : decode cL_law 188 = .ok (.invokestatic 127, 3) := by decide +kernel
theorem dL_law_191 : decode cL_law 191 = .ok (.ifCond .eq 14, 3) := by decide +kernel
theorem dL_law_194 : decode cL_law 194 = .ok (.aload_n 1, 1) := by decide +kernel
theorem dL_law_195 : decode cL_law 195 = .ok (.invokestatic 130, 3) := by decide +kernel
theorem dL_law_198 : decode cL_law 198 = .ok (.ifCond .eq 7, 3) := by decide +kernel
theorem dL_law_201 : decode cL_law 201 = .ok (.iconst 1, 1) := by decide +kernel
theorem dL_law_202 : decode cL_law 202 = .ok (.goto 4, 3) := by decide +kernel
theorem dL_law_205 : decode cL_law 205 = .ok (.iconst 0, 1) := by decide +kernel
theorem dL_law_206 : decode cL_law 206 = .ok (.ireturn, 1) := by decide +kernel
