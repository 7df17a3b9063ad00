theorem dX7_sit_184 : decode cX7_sit 184 = .ok (.aload_n 0, 1) := by decide +kernel
theorem dX7_sit_185 : decode cX7_sit 185 = .ok (.bipush 60, 2) := by decide +kernel
theorem dX7_sit_187 : decode cX7_sit 187 = .ok (.iload_n 1, 1) := by decide +kernel
theorem dX7_sit_188 : decode cX7_sit 188 = .ok (.imul, 1) := by decide +kernel
theorem dX7_sit_189 : decode cX7_sit 189 = .ok (.iload_n 3, 1) := by decide +kernel
theorem dX7_sit_190 : decode cX7_sit 190 = .ok (.iadd, 1) := by decide +kernel
theorem dX7_sit_191 : decode cX7_sit 191 = .ok (.iload 5, 2) := by decide +kernel
theorem dX7_sit_193 : decode cX7_sit 193 = .ok (.invokevirtual 197, 3) := by decide +kernel
theorem dX7_sit_196 : decode cX7_sit 196 = .ok (.invokevirtual 140, 3) := by decide +kernel
theorem dX7_sit_199 : decode cX7_sit 199 = .ok (.ireturn, 1) := by decide +kernel
theorem dX7_maySit_0 : decode cX7_maySit 0 = .ok (.aload_n 0, 1) := by decide +kernel
theorem dX7_maySit_1 : decode cX7_maySit 1 = .ok (.iload_n 1, 1) := by decide +kernel
theorem dX7_maySit_2 : decode cX7_maySit 2 = .ok (.iload_n 2, 1) := by decide +kernel
theorem dX7_maySit_3 : decode cX7_maySit 3 = .ok (.invokevirtual 174, 3) := by decide +kernel
theorem dX7_maySit_6 : decode cX7_maySit 6 = .ok (.ifCond .ne 18, 3) := by decide +kernel
theorem dX7_maySit_9 : decode cX7_maySit 9 = .ok (.aload_n 0, 1) := by decide +kernel
theorem dX7_maySit_10 : decode cX7_maySit 10 = .ok (.getfield 152, 3) := by decide +kernel
theorem dX7_maySit_13 : decode cX7_maySit 13 = .ok (.ifCond .gt 7, 3) := by decide +kernel
theorem dX7_maySit_16 : decode cX7_maySit 16 = .ok (.iload_n 2, 1) := by decide +kernel
theorem dX7_maySit_17 : decode cX7_maySit 17 = .ok (.ifCond .ne 7, 3) := by decide +kernel
theorem dX7_maySit_20 : decode cX7_maySit 20 = .ok (.iconst 1, 1) := by decide +kernel
theorem dX7_maySit_21 : decode cX7_maySit 21 = .ok (.goto 4, 3) := by decide +kernel
theorem dX7_maySit_24 : decode cX7_maySit 24 = .ok (.iconst 0, 1) := by decide +kernel
theorem dX7_maySit_25 : decode cX7_maySit 25 = .ok (.ireturn, 1) := by decide +kernel
theorem dX7_way_0 : decode cX7_way 0 = .ok (.aload_n 0, 1) := by decide +kernel
theorem dX7_way_1 : decode cX7_way 1 = .ok (.iload_n 1, 1) := by decide +kernel
theorem dX7_way_2 : decode cX7_way 2 = .ok (.invokevirtual 158, 3) := by decide +kernel
theorem dX7_way_5 : decode cX7_way 5 = .ok (.ifCond .eq 5, 3) := by decide +kernel
theorem dX7_way_8 : decode cX7_way 8 = .ok (.iconst (-1), 1) := by decide +kernel
theorem dX7_way_9 : decode cX7_way 9 = .ok (.ireturn, 1) := by decide +kernel
theorem dX7_way_10 : decode cX7_way 10 = .ok (.iload_n 2, 1) := by decide +kernel
theorem dX7_way_11 : decode cX7_way 11 = .ok (.i2l, 1) := by decide +kernel
theorem dX7_way_12 : decode cX7_way 12 = .ok (.lconst 0, 1) := by decide +kernel
theorem dX7_way_13 : decode cX7_way 13 = .ok (.ldc2_w 200, 3) := by decide +kernel
theorem dX7_way_16 : decode cX7_way 16 = .ok (.invokestatic 87, 3) := by decide +kernel
theorem dX7_way_19 : decode cX7_way 19 = .ok (.ifCond .ne 6, 3) := by decide +kernel
theorem dX7_way_22 : decode cX7_way 22 = .ok (.bipush (-2), 2) := by decide +kernel
theorem dX7_way_24 : decode cX7_way 24 = .ok (.ireturn, 1) := by decide +kernel
theorem dX7_way_25 : decode cX7_way 25 = .ok (.bipush (-9), 2) := by decide +kernel
theorem dX7_way_27 : decode cX7_way 27 = .ok (.istore_n 3, 1) := by decide +kernel
theorem dX7_way_28 : decode cX7_way 28 = .ok (.iconst 0, 1) := by decide +kernel
theorem dX7_way_29 : decode cX7_way 29 = .ok (.istore 4, 2) := by decide +kernel
theorem dX7_way_31 : decode cX7_way 31 = .ok (.iload 4, 2) := by decide +kernel
theorem dX7_way_33 : decode cX7_way 33 = .ok (.bipush 32, 2) := by decide +kernel
theorem dX7_way_35 : decode cX7_way 35 = .ok (.if_icmp .ge 65, 3) := by decide +kernel
theorem dX7_way_38 : decode cX7_way 38 = .ok (.aload_n 0, 1) := by decide +kernel
theorem dX7_way_39 : decode cX7_way 39 = .ok (.iload_n 1, 1) := by decide +kernel
theorem dX7_way_40 : decode cX7_way 40 = .ok (.iload 4, 2) := by decide +kernel
theorem dX7_way_42 : decode cX7_way 42 = .ok (.invokevirtual 202, 3) := by decide +kernel
theorem dX7_way_45 : decode cX7_way 45 = .ok (.ifCond .eq 18, 3) := by decide +kernel
theorem dX7_way_48 : decode cX7_way 48 = .ok (.aload_n 0, 1) := by decide +kernel
theorem dX7_way_49 : decode cX7_way 49 = .ok (.iload_n 1, 1) := by decide +kernel
theorem dX7_way_50 : decode cX7_way 50 = .ok (.iload 4, 2) := by decide +kernel
theorem dX7_way_52 : decode cX7_way 52 = .ok (.invokevirtual 177, 3) := by decide +kernel
theorem dX7_way_55 : decode cX7_way 55 = .ok (.iload_n 2, 1) := by decide +kernel
theorem dX7_way_56 : decode cX7_way 56 = .ok (.if_icmp .ne 7, 3) := by decide +kernel
theorem dX7_way_59 : decode cX7_way 59 = .ok (.iconst 1, 1) := by decide +kernel
theorem dX7_way_60 : decode cX7_way 60 = .ok (.goto 4, 3) := by decide +kernel
theorem dX7_way_63 : decode cX7_way 63 = .ok (.iconst 0, 1) := by decide +kernel
theorem dX7_way_64 : decode cX7_way 64 = .ok (.istore 5, 2) := by decide +kernel
theorem dX7_way_66 : decode cX7_way 66 = .ok (.iload 5, 2) := by decide +kernel
theorem dX7_way_68 : decode cX7_way 68 = .ok (.ifCond .eq 24, 3) := by decide +kernel
theorem dX7_way_71 : decode cX7_way 71 = .ok (.iload_n 3, 1) := by decide +kernel
theorem dX7_way_72 : decode cX7_way 72 = .ok (.ifCond .lt 15, 3) := by decide +kernel
theorem dX7_way_75 : decode cX7_way 75 = .ok (.iload 4, 2) := by decide +kernel
theorem dX7_way_77 : decode cX7_way 77 = .ok (.invokestatic 186, 3) := by decide +kernel
theorem dX7_way_80 : decode cX7_way 80 = .ok (.iload_n 3, 1) := by decide +kernel
theorem dX7_way_81 : decode cX7_way 81 = .ok (.invokestatic 186, 3) := by decide +kernel
theorem dX7_way_84 : decode cX7_way 84 = .ok (.if_icmp .ge 8, 3) := by decide +kernel
theorem dX7_way_87 : decode cX7_way 87 = .ok (.iload 4, 2) := by decide +kernel
theorem dX7_way_89 : decode cX7_way 89 = .ok (.goto 4, 3) := by decide +kernel
theorem dX7_way_92 : decode cX7_way 92 = .ok (.iload_n 3, 1) := by decide +kernel
theorem dX7_way_93 : decode cX7_way 93 = .ok (.istore_n 3, 1) := by decide +kernel
theorem dX7_way_94 : decode cX7_way 94 = .ok (.iinc 4 1, 3) := by decide +kernel
theorem dX7_way_97 : decode cX7_way 97 = .ok (.goto (-66), 3) := by decide +kernel
theorem dX7_way_100 : decode cX7_way 100 = .ok (.iload_n 3, 1) := by decide +kernel
theorem dX7_way_101 : decode cX7_way 101 = .ok (.ireturn, 1) := by decide +kernel
theorem dX7_spread_0 : decode cX7_spread 0 = .ok (.aload_n 0, 1) := by decide +kernel
theorem dX7_spread_1 : decode cX7_spread 1 = .ok (.iload_n 1, 1) := by decide +kernel
theorem dX7_spread_2 : decode cX7_spread 2 = .ok (.invokevirtual 158, 3) := by decide +kernel
theorem dX7_spread_5 : decode cX7_spread 5 = .ok (.ifCond .eq 5, 3) := by decide +kernel
theorem dX7_spread_8 : decode cX7_spread 8 = .ok (.iconst (-1), 1) := by decide +kernel
theorem dX7_spread_9 : decode cX7_spread 9 = .ok (.ireturn, 1) := by decide +kernel
theorem dX7_spread_10 : decode cX7_spread 10 = .ok (.iconst 0, 1) := by decide +kernel
theorem dX7_spread_11 : decode cX7_spread 11 = .ok (.istore_n 2, 1) := by decide +kernel
theorem dX7_spread_12 : decode cX7_spread 12 = .ok (.aload_n 0, 1) := by decide +kernel
theorem dX7_spread_13 : decode cX7_spread 13 = .ok (.getfield 22, 3) := by decide +kernel
theorem dX7_spread_16 : decode cX7_spread 16 = .ok (.iload_n 1, 1) := by decide +kernel
theorem dX7_spread_17 : decode cX7_spread 17 = .ok (.iaload, 1) := by decide +kernel
theorem dX7_spread_18 : decode cX7_spread 18 = .ok (.istore_n 3, 1) := by decide +kernel
theorem dX7_spread_19 : decode cX7_spread 19 = .ok (.iload_n 3, 1) := by decide +kernel
theorem dX7_spread_20 : decode cX7_spread 20 = .ok (.aload_n 0, 1) := by decide +kernel
theorem dX7_spread_21 : decode cX7_spread 21 = .ok (.getfield 22, 3) := by decide +kernel
theorem dX7_spread_24 : decode cX7_spread 24 = .ok (.iload_n 1, 1) := by decide +kernel
theorem dX7_spread_25 : decode cX7_spread 25 = .ok (.iaload, 1) := by decide +kernel
theorem dX7_spread_26 : decode cX7_spread 26 = .ok (.bipush 20, 2) := by decide +kernel
theorem dX7_spread_28 : decode cX7_spread 28 = .ok (.iadd, 1) := by decide +kernel
theorem dX7_spread_29 : decode cX7_spread 29 = .ok (.if_icmp .gt 26, 3) := by decide +kernel
theorem dX7_spread_32 : decode cX7_spread 32 = .ok (.iload_n 2, 1) := by decide +kernel
theorem dX7_spread_33 : decode cX7_spread 33 = .ok (.aload_n 0, 1) := by decide +kernel
theorem dX7_spread_34 : decode cX7_spread 34 = .ok (.iload_n 1, 1) := by decide +kernel
theorem dX7_spread_35 : decode cX7_spread 35 = .ok (.iload_n 3, 1) := by decide +kernel
theorem dX7_spread_36 : decode cX7_spread 36 = .ok (.invokevirtual 205, 3) := by decide +kernel
theorem dX7_spread_39 : decode cX7_spread 39 = .ok (.ifCond .lt 7, 3) := by decide +kernel
theorem dX7_spread_42 : decode cX7_spread 42 = .ok (.iconst 1, 1) := by decide +kernel
theorem dX7_spread_43 : decode cX7_spread 43 = .ok (.goto 4, 3) := by decide +kernel
theorem dX7_spread_46 : decode cX7_spread 46 = .ok (.iconst 0, 1) := by decide +kernel
theorem dX7_spread_47 : decode cX7_spread 47 = .ok (.iadd, 1) := by decide +kernel
theorem dX7_spread_48 : decode cX7_spread 48 = .ok (.istore_n 2, 1) := by decide +kernel
theorem dX7_spread_49 : decode cX7_spread 49 = .ok (.iinc 3 1, 3) := by decide +kernel
theorem dX7_spread_52 : decode cX7_spread 52 = .ok (.goto (-33), 3) := by decide +kernel
theorem dX7_spread_55 : decode cX7_spread 55 = .ok (.iload_n 2, 1) := by decide +kernel
theorem dX7_spread_56 : decode cX7_spread 56 = .ok (.ireturn, 1) := by decide +kernel
theorem dX7_haveSeats_0 : decode cX7_haveSeats 0 = .ok (.iload_n 1, 1) := by decide +kernel
theorem dX7_haveSeats_1 : decode cX7_haveSeats 1 = .ok (.iload_n 2, 1) := by decide +kernel
theorem dX7_haveSeats_2 : decode cX7_haveSeats 2 = .ok (.iand, 1) := by decide +kernel
theorem dX7_haveSeats_3 : decode cX7_haveSeats 3 = .ok (.ifCond .eq 11, 3) := by decide +kernel
theorem dX7_haveSeats_6 : decode cX7_haveSeats 6 = .ok (.aload_n 0, 1) := by decide +kernel
theorem dX7_haveSeats_7 : decode cX7_haveSeats 7 = .ok (.getfield 152, 3) := by decide +kernel
theorem dX7_haveSeats_10 : decode cX7_haveSeats 10 = .ok (.iconst 1, 1) := by decide +kernel
theorem dX7_haveSeats_11 : decode cX7_haveSeats 11 = .ok (.if_icmp .le 7, 3) := by decide +kernel
theorem dX7_haveSeats_14 : decode cX7_haveSeats 14 = .ok (.iconst 1, 1) := by decide +kernel
theorem dX7_haveSeats_15 : decode cX7_haveSeats 15 = .ok (.goto 4, 3) := by decide +kernel
theorem dX7_haveSeats_18 : decode cX7_haveSeats 18 = .ok (.iconst 0, 1) := by decide +kernel
theorem dX7_haveSeats_19 : decode cX7_haveSeats 19 = .ok (.ireturn, 1) := by decide +kernel
theorem dX7_agree_0 : decode cX7_agree 0 = .ok (.aload_n 0, 1) := by decide +kernel
theorem dX7_agree_1 : decode cX7_agree 1 = .ok (.iload_n 1, 1) := by decide +kernel
theorem dX7_agree_2 : decode cX7_agree 2 = .ok (.invokevirtual 158, 3) := by decide +kernel
theorem dX7_agree_5 : decode cX7_agree 5 = .ok (.ifCond .ne 16, 3) := by decide +kernel
theorem dX7_agree_8 : decode cX7_agree 8 = .ok (.aload_n 0, 1) := by decide +kernel
theorem dX7_agree_9 : decode cX7_agree 9 = .ok (.iload_n 2, 1) := by decide +kernel
theorem dX7_agree_10 : decode cX7_agree 10 = .ok (.invokevirtual 158, 3) := by decide +kernel
theorem dX7_agree_13 : decode cX7_agree 13 = .ok (.ifCond .ne 8, 3) := by decide +kernel
theorem dX7_agree_16 : decode cX7_agree 16 = .ok (.iload_n 1, 1) := by decide +kernel
theorem dX7_agree_17 : decode cX7_agree 17 = .ok (.iload_n 2, 1) := by decide +kernel
theorem dX7_agree_18 : decode cX7_agree 18 = .ok (.if_icmp .ne 5, 3) := by decide +kernel
theorem dX7_agree_21 : decode cX7_agree 21 = .ok (.iconst (-1), 1) := by decide +kernel
theorem dX7_agree_22 : decode cX7_agree 22 = .ok (.ireturn, 1) := by decide +kernel
theorem dX7_agree_23 : decode cX7_agree 23 = .ok (.iload_n 3, 1) := by decide +kernel
theorem dX7_agree_24 : decode cX7_agree 24 = .ok (.i2l, 1) := by decide +kernel
theorem dX7_agree_25 : decode cX7_agree 25 = .ok (.lconst 0, 1) := by decide +kernel
theorem dX7_agree_26 : decode cX7_agree 26 = .ok (.ldc2_w 143, 3) := by decide +kernel
theorem dX7_agree_29 : decode cX7_agree 29 = .ok (.invokestatic 87, 3) := by decide +kernel
theorem dX7_agree_32 : decode cX7_agree 32 = .ok (.ifCond .ne 6, 3) := by decide +kernel
theorem dX7_agree_35 : decode cX7_agree 35 = .ok (.bipush (-2), 2) := by decide +kernel
theorem dX7_agree_37 : decode cX7_agree 37 = .ok (.ireturn, 1) := by decide +kernel
theorem dX7_agree_38 : decode cX7_agree 38 = .ok (.bipush (-9), 2) := by decide +kernel
theorem dX7_agree_40 : decode cX7_agree 40 = .ok (.istore 4, 2) := by decide +kernel
theorem dX7_agree_42 : decode cX7_agree 42 = .ok (.bipush (-9), 2) := by decide +kernel
theorem dX7_agree_44 : decode cX7_agree 44 = .ok (.istore 5, 2) := by decide +kernel
theorem dX7_agree_46 : decode cX7_agree 46 = .ok (.bipush (-9), 2) := by decide +kernel
theorem dX7_agree_48 : decode cX7_agree 48 = .ok (.istore 6, 2) := by decide +kernel
theorem dX7_agree_50 : decode cX7_agree 50 = .ok (.iconst 0, 1) := by decide +kernel
theorem dX7_agree_51 : decode cX7_agree 51 = .ok (.istore 7, 2) := by decide +kernel
theorem dX7_agree_53 : decode cX7_agree 53 = .ok (.iload 7, 2) := by decide +kernel
theorem dX7_agree_55 : decode cX7_agree 55 = .ok (.sipush 1024, 3) := by decide +kernel
theorem dX7_agree_58 : decode cX7_agree 58 = .ok (.if_icmp .ge 120, 3) := by decide +kernel
theorem dX7_agree_61 : decode cX7_agree 61 = .ok (.iload 7, 2) := by decide +kernel
theorem dX7_agree_63 : decode cX7_agree 63 = .ok (.bipush 32, 2) := by decide +kernel
theorem dX7_agree_65 : decode cX7_agree 65 = .ok (.idiv, 1) := by decide +kernel
theorem dX7_agree_66 : decode cX7_agree 66 = .ok (.istore 8, 2) := by decide +kernel
theorem dX7_agree_68 : decode cX7_agree 68 = .ok (.iload 7, 2) := by decide +kernel
theorem dX7_agree_70 : decode cX7_agree 70 = .ok (.bipush 32, 2) := by decide +kernel
theorem dX7_agree_72 : decode cX7_agree 72 = .ok (.irem, 1) := by decide +kernel
theorem dX7_agree_73 : decode cX7_agree 73 = .ok (.istore 9, 2) := by decide +kernel
theorem dX7_agree_75 : decode cX7_agree 75 = .ok (.iload 8, 2) := by decide +kernel
theorem dX7_agree_77 : decode cX7_agree 77 = .ok (.invokestatic 186, 3) := by decide +kernel
theorem dX7_agree_80 : decode cX7_agree 80 = .ok (.iload 9, 2) := by decide +kernel
theorem dX7_agree_82 : decode cX7_agree 82 = .ok (.invokestatic 186, 3) := by decide +kernel
theorem dX7_agree_85 : decode cX7_agree 85 = .ok (.iadd, 1) := by decide +kernel
theorem dX7_agree_86 : decode cX7_agree 86 = .ok (.istore 10, 2) := by decide +kernel
theorem dX7_agree_88 : decode cX7_agree 88 = .ok (.aload_n 0, 1) := by decide +kernel
theorem dX7_agree_89 : decode cX7_agree 89 = .ok (.iload_n 1, 1) := by decide +kernel
theorem dX7_agree_90 : decode cX7_agree 90 = .ok (.iload 8, 2) := by decide +kernel
theorem dX7_agree_92 : decode cX7_agree 92 = .ok (.invokevirtual 202, 3) := by decide +kernel
theorem dX7_agree_95 : decode cX7_agree 95 = .ok (.ifCond .eq 45, 3) := by decide +kernel
theorem dX7_agree_98 : decode cX7_agree 98 = .ok (.aload_n 0, 1) := by decide +kernel
theorem dX7_agree_99 : decode cX7_agree 99 = .ok (.iload_n 2, 1) := by decide +kernel
theorem dX7_agree_100 : decode cX7_agree 100 = .ok (.iload 9, 2) := by decide +kernel
theorem dX7_agree_102 : decode cX7_agree 102 = .ok (.invokevirtual 202, 3) := by decide +kernel
theorem dX7_agree_105 : decode cX7_agree 105 = .ok (.ifCond .eq 35, 3) := by decide +kernel
theorem dX7_agree_108 : decode cX7_agree 108 = .ok (.aload_n 0, 1) := by decide +kernel
theorem dX7_agree_109 : decode cX7_agree 109 = .ok (.iload 8, 2) := by decide +kernel
theorem dX7_agree_111 : decode cX7_agree 111 = .ok (.iload 9, 2) := by decide +kernel
theorem dX7_agree_113 : decode cX7_agree 113 = .ok (.invokevirtual 208, 3) := by decide +kernel
theorem dX7_agree_116 : decode cX7_agree 116 = .ok (.ifCond .eq 24, 3) := by decide +kernel
theorem dX7_agree_119 : decode cX7_agree 119 = .ok (.aload_n 0, 1) := by decide +kernel
theorem dX7_agree_120 : decode cX7_agree 120 = .ok (.iload_n 1, 1) := by decide +kernel
theorem dX7_agree_121 : decode cX7_agree 121 = .ok (.iload 8, 2) := by decide +kernel
theorem dX7_agree_123 : decode cX7_agree 123 = .ok (.invokevirtual 177, 3) := by decide +kernel
theorem dX7_agree_126 : decode cX7_agree 126 = .ok (.aload_n 0, 1) := by decide +kernel
theorem dX7_agree_127 : decode cX7_agree 127 = .ok (.iload_n 2, 1) := by decide +kernel
theorem dX7_agree_128 : decode cX7_agree 128 = .ok (.iload 9, 2) := by decide +kernel
theorem dX7_agree_130 : decode cX7_agree 130 = .ok (.invokevirtual 177, 3) := by decide +kernel
theorem dX7_agree_133 : decode cX7_agree 133 = .ok (.if_icmp .ne 7, 3) := by decide +kernel
theorem dX7_agree_136 : decode cX7_agree 136 = .ok (.iconst 1, 1) := by decide +kernel
theorem dX7_agree_137 : decode cX7_agree 137 = .ok (.goto 4, 3) := by decide +kernel
theorem dX7_agree_140 : decode cX7_agree 140 = .ok (.iconst 0, 1) := by decide +kernel
theorem dX7_agree_141 : decode cX7_agree 141 = .ok (.istore 11, 2) := by decide +kernel
theorem dX7_agree_143 : decode cX7_agree 143 = .ok (.iload 11, 2) := by decide +kernel
theorem dX7_agree_145 : decode cX7_agree 145 = .ok (.ifCond .eq 27, 3) := by decide +kernel
theorem dX7_agree_148 : decode cX7_agree 148 = .ok (.iload 4, 2) := by decide +kernel
theorem dX7_agree_150 : decode cX7_agree 150 = .ok (.ifCond .lt 10, 3) := by decide +kernel
theorem dX7_agree_153 : decode cX7_agree 153 = .ok (.iload 10, 2) := by decide +kernel
theorem dX7_agree_155 : decode cX7_agree 155 = .ok (.iload 4, 2) := by decide +kernel
theorem dX7_agree_157 : decode cX7_agree 157 = .ok (.if_icmp .ge 15, 3) := by decide +kernel
theorem dX7_agree_160 : decode cX7_agree 160 = .ok (.iload 10, 2) := by decide +kernel
theorem dX7_agree_162 : decode cX7_agree 162 = .ok (.istore 4, 2) := by decide +kernel
theorem dX7_agree_164 : decode cX7_agree 164 = .ok (.iload 8, 2) := by decide +kernel
theorem dX7_agree_166 : decode cX7_agree 166 = .ok (.istore 5, 2) := by decide +kernel
theorem dX7_agree_168 : decode cX7_agree 168 = .ok (.iload 9, 2) := by decide +kernel
theorem dX7_agree_170 : decode cX7_agree 170 = .ok (.istore 6, 2) := by decide +kernel
theorem dX7_agree_172 : decode cX7_agree 172 = .ok (.iinc 7 1, 3) := by decide +kernel
theorem dX7_agree_175 : decode cX7_agree 175 = .ok (.goto (-122), 3) := by decide +kernel
theorem dX7_agree_178 : decode cX7_agree 178 = .ok (.iload_n 3, 1) := by decide +kernel
theorem dX7_agree_179 : decode cX7_agree 179 = .ok (.ifCond .ne 8, 3) := by decide +kernel
theorem dX7_agree_182 : decode cX7_agree 182 = .ok (.iload 4, 2) := by decide +kernel
theorem dX7_agree_184 : decode cX7_agree 184 = .ok (.goto 15, 3) := by decide +kernel
theorem dX7_agree_187 : decode cX7_agree 187 = .ok (.iload_n 3, 1) := by decide +kernel
theorem dX7_agree_188 : decode cX7_agree 188 = .ok (.iconst 1, 1) := by decide +kernel
theorem dX7_agree_189 : decode cX7_agree 189 = .ok (.if_icmp .ne 8, 3) := by decide +kernel
theorem dX7_agree_192 : decode cX7_agree 192 = .ok (.iload 5, 2) := by decide +kernel
theorem dX7_agree_194 : decode cX7_agree 194 = .ok (.goto 5, 3) := by decide +kernel
theorem dX7_agree_197 : decode cX7_agree 197 = .ok (.iload 6, 2) := by decide +kernel
theorem dX7_agree_199 : decode cX7_agree 199 = .ok (.ireturn, 1) := by decide +kernel
theorem dX7_withOne_0 : decode cX7_withOne 0 = .ok (.iload_n 1, 1) := by decide +kernel
theorem dX7_withOne_1 : decode cX7_withOne 1 = .ok (.istore_n 3, 1) := by decide +kernel
theorem dX7_withOne_2 : decode cX7_withOne 2 = .ok (.iconst 1, 1) := by decide +kernel
theorem dX7_withOne_3 : decode cX7_withOne 3 = .ok (.istore 4, 2) := by decide +kernel
theorem dX7_withOne_5 : decode cX7_withOne 5 = .ok (.iconst 0, 1) := by decide +kernel
theorem dX7_withOne_6 : decode cX7_withOne 6 = .ok (.istore 5, 2) := by decide +kernel
theorem dX7_withOne_8 : decode cX7_withOne 8 = .ok (.iload 5, 2) := by decide +kernel
theorem dX7_withOne_10 : decode cX7_withOne 10 = .ok (.aload_n 0, 1) := by decide +kernel
theorem dX7_withOne_11 : decode cX7_withOne 11 = .ok (.getfield 84, 3) := by decide +kernel
theorem dX7_withOne_14 : decode cX7_withOne 14 = .ok (.if_icmp .ge 71, 3) := by decide +kernel
theorem dX7_withOne_17 : decode cX7_withOne 17 = .ok (.iload_n 1, 1) := by decide +kernel
theorem dX7_withOne_18 : decode cX7_withOne 18 = .ok (.iconst 2, 1) := by decide +kernel
theorem dX7_withOne_19 : decode cX7_withOne 19 = .ok (.iload 5, 2) := by decide +kernel
theorem dX7_withOne_21 : decode cX7_withOne 21 = .ok (.imul, 1) := by decide +kernel
theorem dX7_withOne_22 : decode cX7_withOne 22 = .ok (.ishr, 1) := by decide +kernel
theorem dX7_withOne_23 : decode cX7_withOne 23 = .ok (.iconst 3, 1) := by decide +kernel
theorem dX7_withOne_24 : decode cX7_withOne 24 = .ok (.iand, 1) := by decide +kernel
theorem dX7_withOne_25 : decode cX7_withOne 25 = .ok (.istore 6, 2) := by decide +kernel
theorem dX7_withOne_27 : decode cX7_withOne 27 = .ok (.iload 4, 2) := by decide +kernel
theorem dX7_withOne_29 : decode cX7_withOne 29 = .ok (.ifCond .eq 25, 3) := by decide +kernel
theorem dX7_withOne_32 : decode cX7_withOne 32 = .ok (.iload_n 2, 1) := by decide +kernel
theorem dX7_withOne_33 : decode cX7_withOne 33 = .ok (.iload 5, 2) := by decide +kernel
theorem dX7_withOne_35 : decode cX7_withOne 35 = .ok (.invokestatic 171, 3) := by decide +kernel
theorem dX7_withOne_38 : decode cX7_withOne 38 = .ok (.ifCond .eq 12, 3) := by decide +kernel
theorem dX7_withOne_41 : decode cX7_withOne 41 = .ok (.iload 6, 2) := by decide +kernel
theorem dX7_withOne_43 : decode cX7_withOne 43 = .ok (.aload_n 0, 1) := by decide +kernel
theorem dX7_withOne_44 : decode cX7_withOne 44 = .ok (.getfield 152, 3) := by decide +kernel
theorem dX7_withOne_47 : decode cX7_withOne 47 = .ok (.if_icmp .ge 7, 3) := by decide +kernel
theorem dX7_withOne_50 : decode cX7_withOne 50 = .ok (.iconst 1, 1) := by decide +kernel
theorem dX7_withOne_51 : decode cX7_withOne 51 = .ok (.goto 4, 3) := by decide +kernel
theorem dX7_withOne_54 : decode cX7_withOne 54 = .ok (.iconst 0, 1) := by decide +kernel
theorem dX7_withOne_55 : decode cX7_withOne 55 = .ok (.istore 4, 2) := by decide +kernel
theorem dX7_withOne_57 : decode cX7_withOne 57 = .ok (.iload_n 3, 1) := by decide +kernel
theorem dX7_withOne_58 : decode cX7_withOne 58 = .ok (.iload_n 2, 1) := by decide +kernel
theorem dX7_withOne_59 : decode cX7_withOne 59 = .ok (.iload 5, 2) := by decide +kernel
theorem dX7_withOne_61 : decode cX7_withOne 61 = .ok (.invokestatic 171, 3) := by decide +kernel
theorem dX7_withOne_64 : decode cX7_withOne 64 = .ok (.ifCond .eq 12, 3) := by decide +kernel
theorem dX7_withOne_67 : decode cX7_withOne 67 = .ok (.iconst 1, 1) := by decide +kernel
theorem dX7_withOne_68 : decode cX7_withOne 68 = .ok (.iconst 2, 1) := by decide +kernel
theorem dX7_withOne_69 : decode cX7_withOne 69 = .ok (.iload 5, 2) := by decide +kernel
theorem dX7_withOne_71 : decode cX7_withOne 71 = .ok (.imul, 1) := by decide +kernel
theorem dX7_withOne_72 : decode cX7_withOne 72 = .ok (.ishl, 1) := by decide +kernel
theorem dX7_withOne_73 : decode cX7_withOne 73 = .ok (.goto 4, 3) := by decide +kernel
theorem dX7_withOne_76 : decode cX7_withOne 76 = .ok (.iconst 0, 1) := by decide +kernel
theorem dX7_withOne_77 : decode cX7_withOne 77 = .ok (.iadd, 1) := by decide +kernel
theorem dX7_withOne_78 : decode cX7_withOne 78 = .ok (.istore_n 3, 1) := by decide +kernel
theorem dX7_withOne_79 : decode cX7_withOne 79 = .ok (.iinc 5 1, 3) := by decide +kernel
theorem dX7_withOne_82 : decode cX7_withOne 82 = .ok (.goto (-74), 3) := by decide +kernel
theorem dX7_withOne_85 : decode cX7_withOne 85 = .ok (.iload 4, 2) := by decide +kernel
theorem dX7_withOne_87 : decode cX7_withOne 87 = .ok (.ifCond .eq 7, 3) := by decide +kernel
theorem dX7_withOne_90 : decode cX7_withOne 90 = .ok (.iload_n 3, 1) := by decide +kernel
theorem dX7_withOne_91 : decode cX7_withOne 91 = .ok (.goto 5, 3) := by decide +kernel
theorem dX7_withOne_94 : decode cX7_withOne 94 = .ok (.bipush (-9), 2) := by decide +kernel
theorem dX7_withOne_96 : decode cX7_withOne 96 = .ok (.ireturn, 1) := by decide +kernel
theorem dX7_goOn_0 : decode cX7_goOn 0 = .ok (.iconst 0, 1) := by decide +kernel
theorem dX7_goOn_1 : decode cX7_goOn 1 = .ok (.istore_n 2, 1) := by decide +kernel
theorem dX7_goOn_2 : decode cX7_goOn 2 = .ok (.iload_n 2, 1) := by decide +kernel
theorem dX7_goOn_3 : decode cX7_goOn 3 = .ok (.sipush 1024, 3) := by decide +kernel
theorem dX7_goOn_6 : decode cX7_goOn 6 = .ok (.if_icmp .ge 16, 3) := by decide +kernel
theorem dX7_goOn_9 : decode cX7_goOn 9 = .ok (.aload_n 0, 1) := by decide +kernel
theorem dX7_goOn_10 : decode cX7_goOn 10 = .ok (.getfield 50, 3) := by decide +kernel
theorem dX7_goOn_13 : decode cX7_goOn 13 = .ok (.iload_n 2, 1) := by decide +kernel
theorem dX7_goOn_14 : decode cX7_goOn 14 = .ok (.iconst 0, 1) := by decide +kernel
theorem dX7_goOn_15 : decode cX7_goOn 15 = .ok (.bastore, 1) := by decide +kernel
theorem dX7_goOn_16 : decode cX7_goOn 16 = .ok (.iinc 2 1, 3) := by decide +kernel
theorem dX7_goOn_19 : decode cX7_goOn 19 = .ok (.goto (-17), 3) := by decide +kernel
theorem dX7_goOn_22 : decode cX7_goOn 22 = .ok (.iconst 0, 1) := by decide +kernel
theorem dX7_goOn_23 : decode cX7_goOn 23 = .ok (.istore_n 2, 1) := by decide +kernel
theorem dX7_goOn_24 : decode cX7_goOn 24 = .ok (.iload_n 2, 1) := by decide +kernel
theorem dX7_goOn_25 : decode cX7_goOn 25 = .ok (.bipush 32, 2) := by decide +kernel
theorem dX7_goOn_27 : decode cX7_goOn 27 = .ok (.if_icmp .ge 38, 3) := by decide +kernel
theorem dX7_goOn_30 : decode cX7_goOn 30 = .ok (.aload_n 0, 1) := by decide +kernel
theorem dX7_goOn_31 : decode cX7_goOn 31 = .ok (.iload_n 1, 1) := by decide +kernel
theorem dX7_goOn_32 : decode cX7_goOn 32 = .ok (.iload_n 2, 1) := by decide +kernel
theorem dX7_goOn_33 : decode cX7_goOn 33 = .ok (.invokevirtual 174, 3) := by decide +kernel
theorem dX7_goOn_36 : decode cX7_goOn 36 = .ok (.ifCond .ne 23, 3) := by decide +kernel
theorem dX7_goOn_39 : decode cX7_goOn 39 = .ok (.aload_n 0, 1) := by decide +kernel
theorem dX7_goOn_40 : decode cX7_goOn 40 = .ok (.iload_n 1, 1) := by decide +kernel
theorem dX7_goOn_41 : decode cX7_goOn 41 = .ok (.iload_n 2, 1) := by decide +kernel
theorem dX7_goOn_42 : decode cX7_goOn 42 = .ok (.invokevirtual 177, 3) := by decide +kernel
theorem dX7_goOn_45 : decode cX7_goOn 45 = .ok (.aload_n 0, 1) := by decide +kernel
theorem dX7_goOn_46 : decode cX7_goOn 46 = .ok (.getfield 25, 3) := by decide +kernel
theorem dX7_goOn_49 : decode cX7_goOn 49 = .ok (.iload_n 1, 1) := by decide +kernel
theorem dX7_goOn_50 : decode cX7_goOn 50 = .ok (.iaload, 1) := by decide +kernel
theorem dX7_goOn_51 : decode cX7_goOn 51 = .ok (.if_icmp .ne 8, 3) := by decide +kernel
theorem dX7_goOn_54 : decode cX7_goOn 54 = .ok (.aload_n 0, 1) := by decide +kernel
theorem dX7_goOn_55 : decode cX7_goOn 55 = .ok (.iload_n 2, 1) := by decide +kernel
theorem dX7_goOn_56 : decode cX7_goOn 56 = .ok (.invokevirtual 211, 3) := by decide +kernel
theorem dX7_goOn_59 : decode cX7_goOn 59 = .ok (.iinc 2 1, 3) := by decide +kernel
theorem dX7_goOn_62 : decode cX7_goOn 62 = .ok (.goto (-38), 3) := by decide +kernel
theorem dX7_goOn_65 : decode cX7_goOn 65 = .ok (.iconst 0, 1) := by decide +kernel
theorem dX7_goOn_66 : decode cX7_goOn 66 = .ok (.istore_n 2, 1) := by decide +kernel
theorem dX7_goOn_67 : decode cX7_goOn 67 = .ok (.iload_n 2, 1) := by decide +kernel
theorem dX7_goOn_68 : decode cX7_goOn 68 = .ok (.sipush 1024, 3) := by decide +kernel
theorem dX7_goOn_71 : decode cX7_goOn 71 = .ok (.if_icmp .ge 21, 3) := by decide +kernel
theorem dX7_goOn_74 : decode cX7_goOn 74 = .ok (.aload_n 0, 1) := by decide +kernel
theorem dX7_goOn_75 : decode cX7_goOn 75 = .ok (.getfield 46, 3) := by decide +kernel
theorem dX7_goOn_78 : decode cX7_goOn 78 = .ok (.iload_n 2, 1) := by decide +kernel
theorem dX7_goOn_79 : decode cX7_goOn 79 = .ok (.aload_n 0, 1) := by decide +kernel
theorem dX7_goOn_80 : decode cX7_goOn 80 = .ok (.getfield 50, 3) := by decide +kernel
theorem dX7_goOn_83 : decode cX7_goOn 83 = .ok (.iload_n 2, 1) := by decide +kernel
theorem dX7_goOn_84 : decode cX7_goOn 84 = .ok (.baload, 1) := by decide +kernel
theorem dX7_goOn_85 : decode cX7_goOn 85 = .ok (.bastore, 1) := by decide +kernel
theorem dX7_goOn_86 : decode cX7_goOn 86 = .ok (.iinc 2 1, 3) := by decide +kernel
theorem dX7_goOn_89 : decode cX7_goOn 89 = .ok (.goto (-22), 3) := by decide +kernel
theorem dX7_goOn_92 : decode cX7_goOn 92 = .ok (.return_, 1) := by decide +kernel
theorem dX7_addTo_0 : decode cX7_addTo 0 = .ok (.iconst 0, 1) := by decide +kernel
theorem dX7_addTo_1 : decode cX7_addTo 1 = .ok (.istore_n 2, 1) := by decide +kernel
theorem dX7_addTo_2 : decode cX7_addTo 2 = .ok (.iload_n 2, 1) := by decide +kernel
theorem dX7_addTo_3 : decode cX7_addTo 3 = .ok (.sipush 1024, 3) := by decide +kernel
theorem dX7_addTo_6 : decode cX7_addTo 6 = .ok (.if_icmp .ge 41, 3) := by decide +kernel
theorem dX7_addTo_9 : decode cX7_addTo 9 = .ok (.aload_n 0, 1) := by decide +kernel
theorem dX7_addTo_10 : decode cX7_addTo 10 = .ok (.getfield 46, 3) := by decide +kernel
theorem dX7_addTo_13 : decode cX7_addTo 13 = .ok (.iload_n 2, 1) := by decide +kernel
theorem dX7_addTo_14 : decode cX7_addTo 14 = .ok (.baload, 1) := by decide +kernel
theorem dX7_addTo_15 : decode cX7_addTo 15 = .ok (.ifCond .eq 12, 3) := by decide +kernel
theorem dX7_addTo_18 : decode cX7_addTo 18 = .ok (.aload_n 0, 1) := by decide +kernel
theorem dX7_addTo_19 : decode cX7_addTo 19 = .ok (.iload_n 2, 1) := by decide +kernel
theorem dX7_addTo_20 : decode cX7_addTo 20 = .ok (.iload_n 1, 1) := by decide +kernel
theorem dX7_addTo_21 : decode cX7_addTo 21 = .ok (.invokevirtual 215, 3) := by decide +kernel
theorem dX7_addTo_24 : decode cX7_addTo 24 = .ok (.goto 5, 3) := by decide +kernel
theorem dX7_addTo_27 : decode cX7_addTo 27 = .ok (.bipush (-9), 2) := by decide +kernel
theorem dX7_addTo_29 : decode cX7_addTo 29 = .ok (.istore_n 3, 1) := by decide +kernel
theorem dX7_addTo_30 : decode cX7_addTo 30 = .ok (.iload_n 3, 1) := by decide +kernel
theorem dX7_addTo_31 : decode cX7_addTo 31 = .ok (.ifCond .lt 10, 3) := by decide +kernel
theorem dX7_addTo_34 : decode cX7_addTo 34 = .ok (.aload_n 0, 1) := by decide +kernel
theorem dX7_addTo_35 : decode cX7_addTo 35 = .ok (.getfield 50, 3) := by decide +kernel
theorem dX7_addTo_38 : decode cX7_addTo 38 = .ok (.iload_n 3, 1) := by decide +kernel
theorem dX7_addTo_39 : decode cX7_addTo 39 = .ok (.iconst 1, 1) := by decide +kernel
theorem dX7_addTo_40 : decode cX7_addTo 40 = .ok (.bastore, 1) := by decide +kernel
theorem dX7_addTo_41 : decode cX7_addTo 41 = .ok (.iinc 2 1, 3) := by decide +kernel
theorem dX7_addTo_44 : decode cX7_addTo 44 = .ok (.goto (-42), 3) := by decide +kernel
theorem dX7_addTo_47 : decode cX7_addTo 47 = .ok (.return_, 1) := by decide +kernel
theorem dX7_canAllBeRight_0 : decode cX7_canAllBeRight 0 = .ok (.iconst 0, 1) := by decide +kernel
theorem dX7_canAllBeRight_1 : decode cX7_canAllBeRight 1 = .ok (.istore_n 2, 1) := by decide +kernel
theorem dX7_canAllBeRight_2 : decode cX7_canAllBeRight 2 = .ok (.iload_n 2, 1) := by decide +kernel
theorem dX7_canAllBeRight_3 : decode cX7_canAllBeRight 3 = .ok (.sipush 1024, 3) := by decide +kernel
theorem dX7_canAllBeRight_6 : decode cX7_canAllBeRight 6 = .ok (.if_icmp .ge 24, 3) := by decide +kernel
theorem dX7_canAllBeRight_9 : decode cX7_canAllBeRight 9 = .ok (.aload_n 0, 1) := by decide +kernel
theorem dX7_canAllBeRight_10 : decode cX7_canAllBeRight 10 = .ok (.getfield 46, 3) := by decide +kernel
theorem dX7_canAllBeRight_13 : decode cX7_canAllBeRight 13 = .ok (.iload_n 2, 1) := by decide +kernel
theorem dX7_canAllBeRight_14 : decode cX7_canAllBeRight 14 = .ok (.iload_n 2, 1) := by decide +kernel
theorem dX7_canAllBeRight_15 : decode cX7_canAllBeRight 15 = .ok (.ifCond .ne 7, 3) := by decide +kernel
theorem dX7_canAllBeRight_18 : decode cX7_canAllBeRight 18 = .ok (.iconst 1, 1) := by decide +kernel
theorem dX7_canAllBeRight_19 : decode cX7_canAllBeRight 19 = .ok (.goto 4, 3) := by decide +kernel
theorem dX7_canAllBeRight_22 : decode cX7_canAllBeRight 22 = .ok (.iconst 0, 1) := by decide +kernel
theorem dX7_canAllBeRight_23 : decode cX7_canAllBeRight 23 = .ok (.bastore, 1) := by decide +kernel
theorem dX7_canAllBeRight_24 : decode cX7_canAllBeRight 24 = .ok (.iinc 2 1, 3) := by decide +kernel
theorem dX7_canAllBeRight_27 : decode cX7_canAllBeRight 27 = .ok (.goto (-25), 3) := by decide +kernel
theorem dX7_canAllBeRight_30 : decode cX7_canAllBeRight 30 = .ok (.iconst 0, 1) := by decide +kernel
theorem dX7_canAllBeRight_31 : decode cX7_canAllBeRight 31 = .ok (.istore_n 2, 1) := by decide +kernel
theorem dX7_canAllBeRight_32 : decode cX7_canAllBeRight 32 = .ok (.iload_n 2, 1) := by decide +kernel
theorem dX7_canAllBeRight_33 : decode cX7_canAllBeRight 33 = .ok (.aload_n 0, 1) := by decide +kernel
theorem dX7_canAllBeRight_34 : decode cX7_canAllBeRight 34 = .ok (.getfield 91, 3) := by decide +kernel
theorem dX7_canAllBeRight_37 : decode cX7_canAllBeRight 37 = .ok (.if_icmp .ge 22, 3) := by decide +kernel
theorem dX7_canAllBeRight_40 : decode cX7_canAllBeRight 40 = .ok (.iload_n 1, 1) := by decide +kernel
theorem dX7_canAllBeRight_41 : decode cX7_canAllBeRight 41 = .ok (.iload_n 2, 1) := by decide +kernel
theorem dX7_canAllBeRight_42 : decode cX7_canAllBeRight 42 = .ok (.invokestatic 171, 3) := by decide +kernel
theorem dX7_canAllBeRight_45 : decode cX7_canAllBeRight 45 = .ok (.ifCond .eq 8, 3) := by decide +kernel
theorem dX7_canAllBeRight_48 : decode cX7_canAllBeRight 48 = .ok (.aload_n 0, 1) := by decide +kernel
theorem dX7_canAllBeRight_49 : decode cX7_canAllBeRight 49 = .ok (.iload_n 2, 1) := by decide +kernel
theorem dX7_canAllBeRight_50 : decode cX7_canAllBeRight 50 = .ok (.invokevirtual 218, 3) := by decide +kernel
theorem dX7_canAllBeRight_53 : decode cX7_canAllBeRight 53 = .ok (.iinc 2 1, 3) := by decide +kernel
theorem dX7_canAllBeRight_56 : decode cX7_canAllBeRight 56 = .ok (.goto (-24), 3) := by decide +kernel
theorem dX7_canAllBeRight_59 : decode cX7_canAllBeRight 59 = .ok (.iconst 0, 1) := by decide +kernel
theorem dX7_canAllBeRight_60 : decode cX7_canAllBeRight 60 = .ok (.istore_n 2, 1) := by decide +kernel
theorem dX7_canAllBeRight_61 : decode cX7_canAllBeRight 61 = .ok (.iconst 0, 1) := by decide +kernel
theorem dX7_canAllBeRight_62 : decode cX7_canAllBeRight 62 = .ok (.istore_n 3, 1) := by decide +kernel
theorem dX7_canAllBeRight_63 : decode cX7_canAllBeRight 63 = .ok (.iload_n 3, 1) := by decide +kernel
theorem dX7_canAllBeRight_64 : decode cX7_canAllBeRight 64 = .ok (.sipush 1024, 3) := by decide +kernel
theorem dX7_canAllBeRight_67 : decode cX7_canAllBeRight 67 = .ok (.if_icmp .ge 28, 3) := by decide +kernel
theorem dX7_canAllBeRight_70 : decode cX7_canAllBeRight 70 = .ok (.iload_n 2, 1) := by decide +kernel
theorem dX7_canAllBeRight_71 : decode cX7_canAllBeRight 71 = .ok (.ifCond .ne 12, 3) := by decide +kernel
theorem dX7_canAllBeRight_74 : decode cX7_canAllBeRight 74 = .ok (.aload_n 0, 1) := by decide +kernel
theorem dX7_canAllBeRight_75 : decode cX7_canAllBeRight 75 = .ok (.getfield 46, 3) := by decide +kernel
theorem dX7_canAllBeRight_78 : decode cX7_canAllBeRight 78 = .ok (.iload_n 3, 1) := by decide +kernel
theorem dX7_canAllBeRight_79 : decode cX7_canAllBeRight 79 = .ok (.baload, 1) := by decide +kernel
theorem dX7_canAllBeRight_80 : decode cX7_canAllBeRight 80 = .ok (.ifCond .eq 7, 3) := by decide +kernel
theorem dX7_canAllBeRight_83 : decode cX7_canAllBeRight 83 = .ok (.iconst 1, 1) := by decide +kernel
theorem dX7_canAllBeRight_84 : decode cX7_canAllBeRight 84 = .ok (.goto 4, 3) := by decide +kernel
theorem dX7_canAllBeRight_87 : decode cX7_canAllBeRight 87 = .ok (.iconst 0, 1) := by decide +kernel
theorem dX7_canAllBeRight_88 : decode cX7_canAllBeRight 88 = .ok (.istore_n 2, 1) := by decide +kernel
theorem dX7_canAllBeRight_89 : decode cX7_canAllBeRight 89 = .ok (.iinc 3 1, 3) := by decide +kernel
theorem dX7_canAllBeRight_92 : decode cX7_canAllBeRight 92 = .ok (.goto (-29), 3) := by decide +kernel
theorem dX7_canAllBeRight_95 : decode cX7_canAllBeRight 95 = .ok (.iload_n 2, 1) := by decide +kernel
theorem dX7_canAllBeRight_96 : decode cX7_canAllBeRight 96 = .ok (.ireturn, 1) := by decide +kernel
theorem dX7_most_0 : decode cX7_most 0 = .ok (.aload_n 0, 1) := by decide +kernel
theorem dX7_most_1 : decode cX7_most 1 = .ok (.getfield 91, 3) := by decide +kernel
theorem dX7_most_4 : decode cX7_most 4 = .ok (.ifCond .ne 6, 3) := by decide +kernel
theorem dX7_most_7 : decode cX7_most 7 = .ok (.bipush (-3), 2) := by decide +kernel
theorem dX7_most_9 : decode cX7_most 9 = .ok (.ireturn, 1) := by decide +kernel
theorem dX7_most_10 : decode cX7_most 10 = .ok (.iconst 0, 1) := by decide +kernel
theorem dX7_most_11 : decode cX7_most 11 = .ok (.istore_n 1, 1) := by decide +kernel
theorem dX7_most_12 : decode cX7_most 12 = .ok (.iconst 1, 1) := by decide +kernel
theorem dX7_most_13 : decode cX7_most 13 = .ok (.istore_n 2, 1) := by decide +kernel
theorem dX7_most_14 : decode cX7_most 14 = .ok (.iload_n 2, 1) := by decide +kernel
theorem dX7_most_15 : decode cX7_most 15 = .ok (.iconst 1, 1) := by decide +kernel
theorem dX7_most_16 : decode cX7_most 16 = .ok (.aload_n 0, 1) := by decide +kernel
theorem dX7_most_17 : decode cX7_most 17 = .ok (.getfield 91, 3) := by decide +kernel
theorem dX7_most_20 : decode cX7_most 20 = .ok (.ishl, 1) := by decide +kernel
theorem dX7_most_21 : decode cX7_most 21 = .ok (.if_icmp .ge 34, 3) := by decide +kernel
theorem dX7_most_24 : decode cX7_most 24 = .ok (.iload_n 2, 1) := by decide +kernel
theorem dX7_most_25 : decode cX7_most 25 = .ok (.invokestatic 186, 3) := by decide +kernel
theorem dX7_most_28 : decode cX7_most 28 = .ok (.iload_n 1, 1) := by decide +kernel
theorem dX7_most_29 : decode cX7_most 29 = .ok (.invokestatic 186, 3) := by decide +kernel
theorem dX7_most_32 : decode cX7_most 32 = .ok (.if_icmp .le 15, 3) := by decide +kernel
theorem dX7_most_35 : decode cX7_most 35 = .ok (.aload_n 0, 1) := by decide +kernel
theorem dX7_most_36 : decode cX7_most 36 = .ok (.iload_n 2, 1) := by decide +kernel
theorem dX7_most_37 : decode cX7_most 37 = .ok (.invokevirtual 221, 3) := by decide +kernel
theorem dX7_most_40 : decode cX7_most 40 = .ok (.ifCond .eq 7, 3) := by decide +kernel
theorem dX7_most_43 : decode cX7_most 43 = .ok (.iload_n 2, 1) := by decide +kernel
theorem dX7_most_44 : decode cX7_most 44 = .ok (.goto 4, 3) := by decide +kernel
theorem dX7_most_47 : decode cX7_most 47 = .ok (.iload_n 1, 1) := by decide +kernel
theorem dX7_most_48 : decode cX7_most 48 = .ok (.istore_n 1, 1) := by decide +kernel
theorem dX7_most_49 : decode cX7_most 49 = .ok (.iinc 2 1, 3) := by decide +kernel
theorem dX7_most_52 : decode cX7_most 52 = .ok (.goto (-38), 3) := by decide +kernel
theorem dX7_most_55 : decode cX7_most 55 = .ok (.iload_n 1, 1) := by decide +kernel
theorem dX7_most_56 : decode cX7_most 56 = .ok (.ireturn, 1) := by decide +kernel
theorem dX7_reading_0 : decode cX7_reading 0 = .ok (.aload_n 0, 1) := by decide +kernel
theorem dX7_reading_1 : decode cX7_reading 1 = .ok (.iload_n 1, 1) := by decide +kernel
theorem dX7_reading_2 : decode cX7_reading 2 = .ok (.invokevirtual 158, 3) := by decide +kernel
theorem dX7_reading_5 : decode cX7_reading 5 = .ok (.ifCond .eq 5, 3) := by decide +kernel
theorem dX7_reading_8 : decode cX7_reading 8 = .ok (.iconst (-1), 1) := by decide +kernel
theorem dX7_reading_9 : decode cX7_reading 9 = .ok (.ireturn, 1) := by decide +kernel
theorem dX7_reading_10 : decode cX7_reading 10 = .ok (.aload_n 0, 1) := by decide +kernel
theorem dX7_reading_11 : decode cX7_reading 11 = .ok (.iload_n 1, 1) := by decide +kernel
theorem dX7_reading_12 : decode cX7_reading 12 = .ok (.iload_n 2, 1) := by decide +kernel
theorem dX7_reading_13 : decode cX7_reading 13 = .ok (.invokevirtual 174, 3) := by decide +kernel
theorem dX7_reading_16 : decode cX7_reading 16 = .ok (.ifCond .ne 15, 3) := by decide +kernel
theorem dX7_reading_19 : decode cX7_reading 19 = .ok (.iload_n 3, 1) := by decide +kernel
theorem dX7_reading_20 : decode cX7_reading 20 = .ok (.i2l, 1) := by decide +kernel
theorem dX7_reading_21 : decode cX7_reading 21 = .ok (.lconst 0, 1) := by decide +kernel
theorem dX7_reading_22 : decode cX7_reading 22 = .ok (.ldc2_w 200, 3) := by decide +kernel
theorem dX7_reading_25 : decode cX7_reading 25 = .ok (.invokestatic 87, 3) := by decide +kernel
theorem dX7_reading_28 : decode cX7_reading 28 = .ok (.ifCond .ne 6, 3) := by decide +kernel
theorem dX7_reading_31 : decode cX7_reading 31 = .ok (.bipush (-2), 2) := by decide +kernel
theorem dX7_reading_33 : decode cX7_reading 33 = .ok (.ireturn, 1) := by decide +kernel
theorem dX7_reading_34 : decode cX7_reading 34 = .ok (.aload_n 0, 1) := by decide +kernel
theorem dX7_reading_35 : decode cX7_reading 35 = .ok (.getfield 155, 3) := by decide +kernel
theorem dX7_reading_38 : decode cX7_reading 38 = .ok (.bipush 8, 2) := by decide +kernel
theorem dX7_reading_40 : decode cX7_reading 40 = .ok (.if_icmp .ne 6, 3) := by decide +kernel
theorem dX7_reading_43 : decode cX7_reading 43 = .ok (.bipush (-4), 2) := by decide +kernel
theorem dX7_reading_45 : decode cX7_reading 45 = .ok (.ireturn, 1) := by decide +kernel
theorem dX7_reading_46 : decode cX7_reading 46 = .ok (.aload_n 0, 1) := by decide +kernel
theorem dX7_reading_47 : decode cX7_reading 47 = .ok (.getfield 53, 3) := by decide +kernel
theorem dX7_reading_50 : decode cX7_reading 50 = .ok (.aload_n 0, 1) := by decide +kernel
theorem dX7_reading_51 : decode cX7_reading 51 = .ok (.getfield 155, 3) := by decide +kernel
theorem dX7_reading_54 : decode cX7_reading 54 = .ok (.iload_n 1, 1) := by decide +kernel
theorem dX7_reading_55 : decode cX7_reading 55 = .ok (.iastore, 1) := by decide +kernel
theorem dX7_reading_56 : decode cX7_reading 56 = .ok (.aload_n 0, 1) := by decide +kernel
theorem dX7_reading_57 : decode cX7_reading 57 = .ok (.getfield 56, 3) := by decide +kernel
theorem dX7_reading_60 : decode cX7_reading 60 = .ok (.aload_n 0, 1) := by decide +kernel
theorem dX7_reading_61 : decode cX7_reading 61 = .ok (.getfield 155, 3) := by decide +kernel
theorem dX7_reading_64 : decode cX7_reading 64 = .ok (.iload_n 2, 1) := by decide +kernel
theorem dX7_reading_65 : decode cX7_reading 65 = .ok (.iastore, 1) := by decide +kernel
theorem dX7_reading_66 : decode cX7_reading 66 = .ok (.aload_n 0, 1) := by decide +kernel
theorem dX7_reading_67 : decode cX7_reading 67 = .ok (.getfield 59, 3) := by decide +kernel
theorem dX7_reading_70 : decode cX7_reading 70 = .ok (.aload_n 0, 1) := by decide +kernel
theorem dX7_reading_71 : decode cX7_reading 71 = .ok (.getfield 155, 3) := by decide +kernel
theorem dX7_reading_74 : decode cX7_reading 74 = .ok (.iload_n 3, 1) := by decide +kernel
theorem dX7_reading_75 : decode cX7_reading 75 = .ok (.iastore, 1) := by decide +kernel
theorem dX7_reading_76 : decode cX7_reading 76 = .ok (.aload_n 0, 1) := by decide +kernel
theorem dX7_reading_77 : decode cX7_reading 77 = .ok (.dup, 1) := by decide +kernel
theorem dX7_reading_78 : decode cX7_reading 78 = .ok (.getfield 155, 3) := by decide +kernel
theorem dX7_reading_81 : decode cX7_reading 81 = .ok (.iconst 1, 1) := by decide +kernel
theorem dX7_reading_82 : decode cX7_reading 82 = .ok (.iadd, 1) := by decide +kernel
theorem dX7_reading_83 : decode cX7_reading 83 = .ok (.putfield 155, 3) := by decide +kernel
theorem dX7_reading_86 : decode cX7_reading 86 = .ok (.aload_n 0, 1) := by decide +kernel
theorem dX7_reading_87 : decode cX7_reading 87 = .ok (.getfield 155, 3) := by decide +kernel
theorem dX7_reading_90 : decode cX7_reading 90 = .ok (.iconst 1, 1) := by decide +kernel
theorem dX7_reading_91 : decode cX7_reading 91 = .ok (.isub, 1) := by decide +kernel
theorem dX7_reading_92 : decode cX7_reading 92 = .ok (.ireturn, 1) := by decide +kernel
theorem dX7_back_0 : decode cX7_back 0 = .ok (.iload_n 1, 1) := by decide +kernel
theorem dX7_back_1 : decode cX7_back 1 = .ok (.i2l, 1) := by decide +kernel
theorem dX7_back_2 : decode cX7_back 2 = .ok (.lconst 0, 1) := by decide +kernel
theorem dX7_back_3 : decode cX7_back 3 = .ok (.aload_n 0, 1) := by decide +kernel
theorem dX7_back_4 : decode cX7_back 4 = .ok (.getfield 155, 3) := by decide +kernel
theorem dX7_back_7 : decode cX7_back 7 = .ok (.i2l, 1) := by decide +kernel
theorem dX7_back_8 : decode cX7_back 8 = .ok (.invokestatic 87, 3) := by decide +kernel
theorem dX7_back_11 : decode cX7_back 11 = .ok (.ifCond .ne 6, 3) := by decide +kernel
theorem dX7_back_14 : decode cX7_back 14 = .ok (.bipush (-2), 2) := by decide +kernel
theorem dX7_back_16 : decode cX7_back 16 = .ok (.ireturn, 1) := by decide +kernel
theorem dX7_back_17 : decode cX7_back 17 = .ok (.aload_n 0, 1) := by decide +kernel
theorem dX7_back_18 : decode cX7_back 18 = .ok (.dup, 1) := by decide +kernel
theorem dX7_back_19 : decode cX7_back 19 = .ok (.getfield 155, 3) := by decide +kernel
theorem dX7_back_22 : decode cX7_back 22 = .ok (.iload_n 1, 1) := by decide +kernel
theorem dX7_back_23 : decode cX7_back 23 = .ok (.isub, 1) := by decide +kernel
theorem dX7_back_24 : decode cX7_back 24 = .ok (.putfield 155, 3) := by decide +kernel
theorem dX7_back_27 : decode cX7_back 27 = .ok (.aload_n 0, 1) := by decide +kernel
theorem dX7_back_28 : decode cX7_back 28 = .ok (.getfield 155, 3) := by decide +kernel
theorem dX7_back_31 : decode cX7_back 31 = .ok (.ireturn, 1) := by decide +kernel
theorem dX7_areSo_0 : decode cX7_areSo 0 = .ok (.iconst 1, 1) := by decide +kernel
theorem dX7_areSo_1 : decode cX7_areSo 1 = .ok (.istore_n 1, 1) := by decide +kernel
theorem dX7_areSo_2 : decode cX7_areSo 2 = .ok (.iconst 0, 1) := by decide +kernel
theorem dX7_areSo_3 : decode cX7_areSo 3 = .ok (.istore_n 2, 1) := by decide +kernel
theorem dX7_areSo_4 : decode cX7_areSo 4 = .ok (.iload_n 2, 1) := by decide +kernel
theorem dX7_areSo_5 : decode cX7_areSo 5 = .ok (.aload_n 0, 1) := by decide +kernel
theorem dX7_areSo_6 : decode cX7_areSo 6 = .ok (.getfield 155, 3) := by decide +kernel
theorem dX7_areSo_9 : decode cX7_areSo 9 = .ok (.if_icmp .ge 44, 3) := by decide +kernel
theorem dX7_areSo_12 : decode cX7_areSo 12 = .ok (.iload_n 1, 1) := by decide +kernel
theorem dX7_areSo_13 : decode cX7_areSo 13 = .ok (.ifCond .eq 32, 3) := by decide +kernel
theorem dX7_areSo_16 : decode cX7_areSo 16 = .ok (.aload_n 0, 1) := by decide +kernel
theorem dX7_areSo_17 : decode cX7_areSo 17 = .ok (.aload_n 0, 1) := by decide +kernel
theorem dX7_areSo_18 : decode cX7_areSo 18 = .ok (.getfield 53, 3) := by decide +kernel
theorem dX7_areSo_21 : decode cX7_areSo 21 = .ok (.iload_n 2, 1) := by decide +kernel
theorem dX7_areSo_22 : decode cX7_areSo 22 = .ok (.iaload, 1) := by decide +kernel
theorem dX7_areSo_23 : decode cX7_areSo 23 = .ok (.aload_n 0, 1) := by decide +kernel
theorem dX7_areSo_24 : decode cX7_areSo 24 = .ok (.getfield 56, 3) := by decide +kernel
theorem dX7_areSo_27 : decode cX7_areSo 27 = .ok (.iload_n 2, 1) := by decide +kernel
theorem dX7_areSo_28 : decode cX7_areSo 28 = .ok (.iaload, 1) := by decide +kernel
theorem dX7_areSo_29 : decode cX7_areSo 29 = .ok (.invokevirtual 177, 3) := by decide +kernel
theorem dX7_areSo_32 : decode cX7_areSo 32 = .ok (.aload_n 0, 1) := by decide +kernel
theorem dX7_areSo_33 : decode cX7_areSo 33 = .ok (.getfield 59, 3) := by decide +kernel
theorem dX7_areSo_36 : decode cX7_areSo 36 = .ok (.iload_n 2, 1) := by decide +kernel
theorem dX7_areSo_37 : decode cX7_areSo 37 = .ok (.iaload, 1) := by decide +kernel
theorem dX7_areSo_38 : decode cX7_areSo 38 = .ok (.if_icmp .ne 7, 3) := by decide +kernel
theorem dX7_areSo_41 : decode cX7_areSo 41 = .ok (.iconst 1, 1) := by decide +kernel
theorem dX7_areSo_42 : decode cX7_areSo 42 = .ok (.goto 4, 3) := by decide +kernel
theorem dX7_areSo_45 : decode cX7_areSo 45 = .ok (.iconst 0, 1) := by decide +kernel
theorem dX7_areSo_46 : decode cX7_areSo 46 = .ok (.istore_n 1, 1) := by decide +kernel
theorem dX7_areSo_47 : decode cX7_areSo 47 = .ok (.iinc 2 1, 3) := by decide +kernel
theorem dX7_areSo_50 : decode cX7_areSo 50 = .ok (.goto (-46), 3) := by decide +kernel
theorem dX7_areSo_53 : decode cX7_areSo 53 = .ok (.iload_n 1, 1) := by decide +kernel
theorem dX7_areSo_54 : decode cX7_areSo 54 = .ok (.ireturn, 1) := by decide +kernel
theorem dX7_slopes_0 : decode cX7_slopes 0 = .ok (.aload_n 0, 1) := by decide +kernel
theorem dX7_slopes_1 : decode cX7_slopes 1 = .ok (.iload_n 1, 1) := by decide +kernel
theorem dX7_slopes_2 : decode cX7_slopes 2 = .ok (.invokevirtual 161, 3) := by decide +kernel
theorem dX7_slopes_5 : decode cX7_slopes 5 = .ok (.ifCond .eq 5, 3) := by decide +kernel
theorem dX7_slopes_8 : decode cX7_slopes 8 = .ok (.iconst (-1), 1) := by decide +kernel
theorem dX7_slopes_9 : decode cX7_slopes 9 = .ok (.ireturn, 1) := by decide +kernel
theorem dX7_slopes_10 : decode cX7_slopes 10 = .ok (.aload_n 0, 1) := by decide +kernel
theorem dX7_slopes_11 : decode cX7_slopes 11 = .ok (.getfield 7, 3) := by decide +kernel
theorem dX7_slopes_14 : decode cX7_slopes 14 = .ok (.iload_n 1, 1) := by decide +kernel
theorem dX7_slopes_15 : decode cX7_slopes 15 = .ok (.iaload, 1) := by decide +kernel
theorem dX7_slopes_16 : decode cX7_slopes 16 = .ok (.istore_n 2, 1) := by decide +kernel
theorem dX7_slopes_17 : decode cX7_slopes 17 = .ok (.iconst 0, 1) := by decide +kernel
theorem dX7_slopes_18 : decode cX7_slopes 18 = .ok (.istore_n 3, 1) := by decide +kernel
theorem dX7_slopes_19 : decode cX7_slopes 19 = .ok (.iconst 0, 1) := by decide +kernel
theorem dX7_slopes_20 : decode cX7_slopes 20 = .ok (.istore 4, 2) := by decide +kernel
theorem dX7_slopes_22 : decode cX7_slopes 22 = .ok (.iload 4, 2) := by decide +kernel
theorem dX7_slopes_24 : decode cX7_slopes 24 = .ok (.iconst 4, 1) := by decide +kernel
theorem dX7_slopes_25 : decode cX7_slopes 25 = .ok (.if_icmp .ge 35, 3) := by decide +kernel
theorem dX7_slopes_28 : decode cX7_slopes 28 = .ok (.aload_n 0, 1) := by decide +kernel
theorem dX7_slopes_29 : decode cX7_slopes 29 = .ok (.getfield 7, 3) := by decide +kernel
theorem dX7_slopes_32 : decode cX7_slopes 32 = .ok (.iload_n 1, 1) := by decide +kernel
theorem dX7_slopes_33 : decode cX7_slopes 33 = .ok (.iload 4, 2) := by decide +kernel
theorem dX7_slopes_35 : decode cX7_slopes 35 = .ok (.iastore, 1) := by decide +kernel
theorem dX7_slopes_36 : decode cX7_slopes 36 = .ok (.iload_n 3, 1) := by decide +kernel
theorem dX7_slopes_37 : decode cX7_slopes 37 = .ok (.aload_n 0, 1) := by decide +kernel
theorem dX7_slopes_38 : decode cX7_slopes 38 = .ok (.invokevirtual 224, 3) := by decide +kernel
theorem dX7_slopes_41 : decode cX7_slopes 41 = .ok (.ifCond .eq 10, 3) := by decide +kernel
theorem dX7_slopes_44 : decode cX7_slopes 44 = .ok (.iconst 1, 1) := by decide +kernel
theorem dX7_slopes_45 : decode cX7_slopes 45 = .ok (.iload 4, 2) := by decide +kernel
theorem dX7_slopes_47 : decode cX7_slopes 47 = .ok (.ishl, 1) := by decide +kernel
theorem dX7_slopes_48 : decode cX7_slopes 48 = .ok (.goto 4, 3) := by decide +kernel
theorem dX7_slopes_51 : decode cX7_slopes 51 = .ok (.iconst 0, 1) := by decide +kernel
theorem dX7_slopes_52 : decode cX7_slopes 52 = .ok (.ior, 1) := by decide +kernel
theorem dX7_slopes_53 : decode cX7_slopes 53 = .ok (.istore_n 3, 1) := by decide +kernel
theorem dX7_slopes_54 : decode cX7_slopes 54 = .ok (.iinc 4 1, 3) := by decide +kernel
theorem dX7_slopes_57 : decode cX7_slopes 57 = .ok (.goto (-35), 3) := by decide +kernel
theorem dX7_slopes_60 : decode cX7_slopes 60 = .ok (.aload_n 0, 1) := by decide +kernel
theorem dX7_slopes_61 : decode cX7_slopes 61 = .ok (.getfield 7, 3) := by decide +kernel
theorem dX7_slopes_64 : decode cX7_slopes 64 = .ok (.iload_n 1, 1) := by decide +kernel
theorem dX7_slopes_65 : decode cX7_slopes 65 = .ok (.iload_n 2, 1) := by decide +kernel
theorem dX7_slopes_66 : decode cX7_slopes 66 = .ok (.iastore, 1) := by decide +kernel
theorem dX7_slopes_67 : decode cX7_slopes 67 = .ok (.iload_n 3, 1) := by decide +kernel
theorem dX7_slopes_68 : decode cX7_slopes 68 = .ok (.ireturn, 1) := by decide +kernel
theorem dX7_kinds_0 : decode cX7_kinds 0 = .ok (.aload_n 0, 1) := by decide +kernel
theorem dX7_kinds_1 : decode cX7_kinds 1 = .ok (.iload_n 1, 1) := by decide +kernel
theorem dX7_kinds_2 : decode cX7_kinds 2 = .ok (.invokevirtual 158, 3) := by decide +kernel
theorem dX7_kinds_5 : decode cX7_kinds 5 = .ok (.ifCond .eq 5, 3) := by decide +kernel
theorem dX7_kinds_8 : decode cX7_kinds 8 = .ok (.iconst (-1), 1) := by decide +kernel
theorem dX7_kinds_9 : decode cX7_kinds 9 = .ok (.ireturn, 1) := by decide +kernel
theorem dX7_kinds_10 : decode cX7_kinds 10 = .ok (.aload_n 0, 1) := by decide +kernel
theorem dX7_kinds_11 : decode cX7_kinds 11 = .ok (.getfield 13, 3) := by decide +kernel
theorem dX7_kinds_14 : decode cX7_kinds 14 = .ok (.iload_n 1, 1) := by decide +kernel
theorem dX7_kinds_15 : decode cX7_kinds 15 = .ok (.iaload, 1) := by decide +kernel
theorem dX7_kinds_16 : decode cX7_kinds 16 = .ok (.istore_n 2, 1) := by decide +kernel
theorem dX7_kinds_17 : decode cX7_kinds 17 = .ok (.iconst 0, 1) := by decide +kernel
theorem dX7_kinds_18 : decode cX7_kinds 18 = .ok (.istore_n 3, 1) := by decide +kernel
theorem dX7_kinds_19 : decode cX7_kinds 19 = .ok (.iconst 0, 1) := by decide +kernel
theorem dX7_kinds_20 : decode cX7_kinds 20 = .ok (.istore 4, 2) := by decide +kernel
theorem dX7_kinds_22 : decode cX7_kinds 22 = .ok (.iload 4, 2) := by decide +kernel
theorem dX7_kinds_24 : decode cX7_kinds 24 = .ok (.iconst 3, 1) := by decide +kernel
theorem dX7_kinds_25 : decode cX7_kinds 25 = .ok (.if_icmp .ge 35, 3) := by decide +kernel
theorem dX7_kinds_28 : decode cX7_kinds 28 = .ok (.aload_n 0, 1) := by decide +kernel
theorem dX7_kinds_29 : decode cX7_kinds 29 = .ok (.getfield 13, 3) := by decide +kernel
theorem dX7_kinds_32 : decode cX7_kinds 32 = .ok (.iload_n 1, 1) := by decide +kernel
theorem dX7_kinds_33 : decode cX7_kinds 33 = .ok (.iload 4, 2) := by decide +kernel
theorem dX7_kinds_35 : decode cX7_kinds 35 = .ok (.iastore, 1) := by decide +kernel
theorem dX7_kinds_36 : decode cX7_kinds 36 = .ok (.iload_n 3, 1) := by decide +kernel
theorem dX7_kinds_37 : decode cX7_kinds 37 = .ok (.aload_n 0, 1) := by decide +kernel
theorem dX7_kinds_38 : decode cX7_kinds 38 = .ok (.invokevirtual 224, 3) := by decide +kernel
theorem dX7_kinds_41 : decode cX7_kinds 41 = .ok (.ifCond .eq 10, 3) := by decide +kernel
theorem dX7_kinds_44 : decode cX7_kinds 44 = .ok (.iconst 1, 1) := by decide +kernel
theorem dX7_kinds_45 : decode cX7_kinds 45 = .ok (.iload 4, 2) := by decide +kernel
theorem dX7_kinds_47 : decode cX7_kinds 47 = .ok (.ishl, 1) := by decide +kernel
theorem dX7_kinds_48 : decode cX7_kinds 48 = .ok (.goto 4, 3) := by decide +kernel
theorem dX7_kinds_51 : decode cX7_kinds 51 = .ok (.iconst 0, 1) := by decide +kernel
theorem dX7_kinds_52 : decode cX7_kinds 52 = .ok (.ior, 1) := by decide +kernel
theorem dX7_kinds_53 : decode cX7_kinds 53 = .ok (.istore_n 3, 1) := by decide +kernel
theorem dX7_kinds_54 : decode cX7_kinds 54 = .ok (.iinc 4 1, 3) := by decide +kernel
theorem dX7_kinds_57 : decode cX7_kinds 57 = .ok (.goto (-35), 3) := by decide +kernel
theorem dX7_kinds_60 : decode cX7_kinds 60 = .ok (.aload_n 0, 1) := by decide +kernel
theorem dX7_kinds_61 : decode cX7_kinds 61 = .ok (.getfield 13, 3) := by decide +kernel
theorem dX7_kinds_64 : decode cX7_kinds 64 = .ok (.iload_n 1, 1) := by decide +kernel
theorem dX7_kinds_65 : decode cX7_kinds 65 = .ok (.iload_n 2, 1) := by decide +kernel
theorem dX7_kinds_66 : decode cX7_kinds 66 = .ok (.iastore, 1) := by decide +kernel
theorem dX7_kinds_67 : decode cX7_kinds 67 = .ok (.iload_n 3, 1) := by decide +kernel
theorem dX7_kinds_68 : decode cX7_kinds 68 = .ok (.ireturn, 1) := by decide +kernel
theorem dX7_began_0 : decode cX7_began 0 = .ok (.aload_n 0, 1) := by decide +kernel
theorem dX7_began_1 : decode cX7_began 1 = .ok (.iload_n 1, 1) := by decide +kernel
theorem dX7_began_2 : decode cX7_began 2 = .ok (.invokevirtual 158, 3) := by decide +kernel
theorem dX7_began_5 : decode cX7_began 5 = .ok (.ifCond .eq 5, 3) := by decide +kernel
theorem dX7_began_8 : decode cX7_began 8 = .ok (.iconst (-1), 1) := by decide +kernel
theorem dX7_began_9 : decode cX7_began 9 = .ok (.ireturn, 1) := by decide +kernel
theorem dX7_began_10 : decode cX7_began 10 = .ok (.iload_n 2, 1) := by decide +kernel
theorem dX7_began_11 : decode cX7_began 11 = .ok (.i2l, 1) := by decide +kernel
theorem dX7_began_12 : decode cX7_began 12 = .ok (.lconst 0, 1) := by decide +kernel
theorem dX7_began_13 : decode cX7_began 13 = .ok (.lconst 1, 1) := by decide +kernel
theorem dX7_began_14 : decode cX7_began 14 = .ok (.invokestatic 87, 3) := by decide +kernel
theorem dX7_began_17 : decode cX7_began 17 = .ok (.ifCond .ne 6, 3) := by decide +kernel
theorem dX7_began_20 : decode cX7_began 20 = .ok (.bipush (-2), 2) := by decide +kernel
theorem dX7_began_22 : decode cX7_began 22 = .ok (.ireturn, 1) := by decide +kernel
theorem dX7_began_23 : decode cX7_began 23 = .ok (.aload_n 0, 1) := by decide +kernel
theorem dX7_began_24 : decode cX7_began 24 = .ok (.getfield 22, 3) := by decide +kernel
theorem dX7_began_27 : decode cX7_began 27 = .ok (.iload_n 1, 1) := by decide +kernel
theorem dX7_began_28 : decode cX7_began 28 = .ok (.iaload, 1) := by decide +kernel
theorem dX7_began_29 : decode cX7_began 29 = .ok (.istore_n 3, 1) := by decide +kernel
theorem dX7_began_30 : decode cX7_began 30 = .ok (.iconst 0, 1) := by decide +kernel
theorem dX7_began_31 : decode cX7_began 31 = .ok (.istore 4, 2) := by decide +kernel
theorem dX7_began_33 : decode cX7_began 33 = .ok (.bipush (-9), 2) := by decide +kernel
theorem dX7_began_35 : decode cX7_began 35 = .ok (.istore 5, 2) := by decide +kernel
theorem dX7_began_37 : decode cX7_began 37 = .ok (.bipush 79, 2) := by decide +kernel
theorem dX7_began_39 : decode cX7_began 39 = .ok (.istore 6, 2) := by decide +kernel
theorem dX7_began_41 : decode cX7_began 41 = .ok (.iload 6, 2) := by decide +kernel
theorem dX7_began_43 : decode cX7_began 43 = .ok (.ifCond .lt 52, 3) := by decide +kernel
theorem dX7_began_46 : decode cX7_began 46 = .ok (.aload_n 0, 1) := by decide +kernel
theorem dX7_began_47 : decode cX7_began 47 = .ok (.getfield 22, 3) := by decide +kernel
theorem dX7_began_50 : decode cX7_began 50 = .ok (.iload_n 1, 1) := by decide +kernel
theorem dX7_began_51 : decode cX7_began 51 = .ok (.iload 6, 2) := by decide +kernel
theorem dX7_began_53 : decode cX7_began 53 = .ok (.iastore, 1) := by decide +kernel
theorem dX7_began_54 : decode cX7_began 54 = .ok (.aload_n 0, 1) := by decide +kernel
theorem dX7_began_55 : decode cX7_began 55 = .ok (.invokevirtual 224, 3) := by decide +kernel
theorem dX7_began_58 : decode cX7_began 58 = .ok (.istore 7, 2) := by decide +kernel
theorem dX7_began_60 : decode cX7_began 60 = .ok (.iload 4, 2) := by decide +kernel
theorem dX7_began_62 : decode cX7_began 62 = .ok (.iload 7, 2) := by decide +kernel
theorem dX7_began_64 : decode cX7_began 64 = .ok (.ifCond .eq 7, 3) := by decide +kernel
theorem dX7_began_67 : decode cX7_began 67 = .ok (.iconst 1, 1) := by decide +kernel
theorem dX7_began_68 : decode cX7_began 68 = .ok (.goto 4, 3) := by decide +kernel
theorem dX7_began_71 : decode cX7_began 71 = .ok (.iconst 0, 1) := by decide +kernel
theorem dX7_began_72 : decode cX7_began 72 = .ok (.iadd, 1) := by decide +kernel
theorem dX7_began_73 : decode cX7_began 73 = .ok (.istore 4, 2) := by decide +kernel
theorem dX7_began_75 : decode cX7_began 75 = .ok (.iload 7, 2) := by decide +kernel
theorem dX7_began_77 : decode cX7_began 77 = .ok (.ifCond .eq 8, 3) := by decide +kernel
theorem dX7_began_80 : decode cX7_began 80 = .ok (.iload 6, 2) := by decide +kernel
theorem dX7_began_82 : decode cX7_began 82 = .ok (.goto 5, 3) := by decide +kernel
theorem dX7_began_85 : decode cX7_began 85 = .ok (.iload 5, 2) := by decide +kernel
theorem dX7_began_87 : decode cX7_began 87 = .ok (.istore 5, 2) := by decide +kernel
theorem dX7_began_89 : decode cX7_began 89 = .ok (.iinc 6 (-1), 3) := by decide +kernel
theorem dX7_began_92 : decode cX7_began 92 = .ok (.goto (-51), 3) := by decide +kernel
theorem dX7_began_95 : decode cX7_began 95 = .ok (.aload_n 0, 1) := by decide +kernel
theorem dX7_began_96 : decode cX7_began 96 = .ok (.getfield 22, 3) := by decide +kernel
theorem dX7_began_99 : decode cX7_began 99 = .ok (.iload_n 1, 1) := by decide +kernel
theorem dX7_began_100 : decode cX7_began 100 = .ok (.iload_n 3, 1) := by decide +kernel
theorem dX7_began_101 : decode cX7_began 101 = .ok (.iastore, 1) := by decide +kernel
theorem dX7_began_102 : decode cX7_began 102 = .ok (.iload_n 2, 1) := by decide +kernel
theorem dX7_began_103 : decode cX7_began 103 = .ok (.ifCond .ne 8, 3) := by decide +kernel
theorem dX7_began_106 : decode cX7_began 106 = .ok (.iload 4, 2) := by decide +kernel
theorem dX7_began_108 : decode cX7_began 108 = .ok (.goto 5, 3) := by decide +kernel
theorem dX7_began_111 : decode cX7_began 111 = .ok (.iload 5, 2) := by decide +kernel
theorem dX7_began_113 : decode cX7_began 113 = .ok (.ireturn, 1) := by decide +kernel
theorem dX7_odds_0 : decode cX7_odds 0 = .ok (.aload_n 0, 1) := by decide +kernel
theorem dX7_odds_1 : decode cX7_odds 1 = .ok (.iload_n 1, 1) := by decide +kernel
theorem dX7_odds_2 : decode cX7_odds 2 = .ok (.invokevirtual 158, 3) := by decide +kernel
theorem dX7_odds_5 : decode cX7_odds 5 = .ok (.ifCond .ne 25, 3) := by decide +kernel
theorem dX7_odds_8 : decode cX7_odds 8 = .ok (.iload_n 2, 1) := by decide +kernel
theorem dX7_odds_9 : decode cX7_odds 9 = .ok (.i2l, 1) := by decide +kernel
theorem dX7_odds_10 : decode cX7_odds 10 = .ok (.lconst 0, 1) := by decide +kernel
theorem dX7_odds_11 : decode cX7_odds 11 = .ok (.ldc2_w 200, 3) := by decide +kernel
theorem dX7_odds_14 : decode cX7_odds 14 = .ok (.invokestatic 87, 3) := by decide +kernel
theorem dX7_odds_17 : decode cX7_odds 17 = .ok (.ifCond .eq 13, 3) := by decide +kernel
theorem dX7_odds_20 : decode cX7_odds 20 = .ok (.iload_n 3, 1) := by decide +kernel
theorem dX7_odds_21 : decode cX7_odds 21 = .ok (.i2l, 1) := by decide +kernel
theorem dX7_odds_22 : decode cX7_odds 22 = .ok (.lconst 0, 1) := by decide +kernel
theorem dX7_odds_23 : decode cX7_odds 23 = .ok (.lconst 1, 1) := by decide +kernel
theorem dX7_odds_24 : decode cX7_odds 24 = .ok (.invokestatic 87, 3) := by decide +kernel
theorem dX7_odds_27 : decode cX7_odds 27 = .ok (.ifCond .ne 7, 3) := by decide +kernel
theorem dX7_odds_30 : decode cX7_odds 30 = .ok (.invokestatic 80, 3) := by decide +kernel
theorem dX7_odds_33 : decode cX7_odds 33 = .ok (.lreturn, 1) := by decide +kernel
theorem dX7_odds_34 : decode cX7_odds 34 = .ok (.lconst 0, 1) := by decide +kernel
theorem dX7_odds_35 : decode cX7_odds 35 = .ok (.lstore 4, 2) := by decide +kernel
theorem dX7_odds_37 : decode cX7_odds 37 = .ok (.lconst 0, 1) := by decide +kernel
theorem dX7_odds_38 : decode cX7_odds 38 = .ok (.lstore 6, 2) := by decide +kernel
theorem dX7_odds_40 : decode cX7_odds 40 = .ok (.iconst 0, 1) := by decide +kernel
theorem dX7_odds_41 : decode cX7_odds 41 = .ok (.istore 8, 2) := by decide +kernel
theorem dX7_odds_43 : decode cX7_odds 43 = .ok (.iload 8, 2) := by decide +kernel
theorem dX7_odds_45 : decode cX7_odds 45 = .ok (.bipush 32, 2) := by decide +kernel
theorem dX7_odds_47 : decode cX7_odds 47 = .ok (.if_icmp .ge 67, 3) := by decide +kernel
theorem dX7_odds_50 : decode cX7_odds 50 = .ok (.aload_n 0, 1) := by decide +kernel
theorem dX7_odds_51 : decode cX7_odds 51 = .ok (.iload_n 1, 1) := by decide +kernel
theorem dX7_odds_52 : decode cX7_odds 52 = .ok (.iload 8, 2) := by decide +kernel
theorem dX7_odds_54 : decode cX7_odds 54 = .ok (.invokevirtual 174, 3) := by decide +kernel
theorem dX7_odds_57 : decode cX7_odds 57 = .ok (.ifCond .ne 7, 3) := by decide +kernel
theorem dX7_odds_60 : decode cX7_odds 60 = .ok (.iconst 1, 1) := by decide +kernel
theorem dX7_odds_61 : decode cX7_odds 61 = .ok (.goto 4, 3) := by decide +kernel
theorem dX7_odds_64 : decode cX7_odds 64 = .ok (.iconst 0, 1) := by decide +kernel
theorem dX7_odds_65 : decode cX7_odds 65 = .ok (.istore 9, 2) := by decide +kernel
theorem dX7_odds_67 : decode cX7_odds 67 = .ok (.lload 6, 2) := by decide +kernel
theorem dX7_odds_69 : decode cX7_odds 69 = .ok (.iload 9, 2) := by decide +kernel
theorem dX7_odds_71 : decode cX7_odds 71 = .ok (.ifCond .eq 7, 3) := by decide +kernel
theorem dX7_odds_74 : decode cX7_odds 74 = .ok (.lconst 1, 1) := by decide +kernel
theorem dX7_odds_75 : decode cX7_odds 75 = .ok (.goto 4, 3) := by decide +kernel
theorem dX7_odds_78 : decode cX7_odds 78 = .ok (.lconst 0, 1) := by decide +kernel
theorem dX7_odds_79 : decode cX7_odds 79 = .ok (.ladd, 1) := by decide +kernel
theorem dX7_odds_80 : decode cX7_odds 80 = .ok (.lstore 6, 2) := by decide +kernel
theorem dX7_odds_82 : decode cX7_odds 82 = .ok (.lload 4, 2) := by decide +kernel
theorem dX7_odds_84 : decode cX7_odds 84 = .ok (.iload 9, 2) := by decide +kernel
theorem dX7_odds_86 : decode cX7_odds 86 = .ok (.ifCond .eq 18, 3) := by decide +kernel
theorem dX7_odds_89 : decode cX7_odds 89 = .ok (.aload_n 0, 1) := by decide +kernel
theorem dX7_odds_90 : decode cX7_odds 90 = .ok (.iload_n 1, 1) := by decide +kernel
theorem dX7_odds_91 : decode cX7_odds 91 = .ok (.iload 8, 2) := by decide +kernel
theorem dX7_odds_93 : decode cX7_odds 93 = .ok (.invokevirtual 177, 3) := by decide +kernel
theorem dX7_odds_96 : decode cX7_odds 96 = .ok (.iload_n 2, 1) := by decide +kernel
theorem dX7_odds_97 : decode cX7_odds 97 = .ok (.if_icmp .lt 7, 3) := by decide +kernel
theorem dX7_odds_100 : decode cX7_odds 100 = .ok (.lconst 1, 1) := by decide +kernel
theorem dX7_odds_101 : decode cX7_odds 101 = .ok (.goto 4, 3) := by decide +kernel
theorem dX7_odds_104 : decode cX7_odds 104 = .ok (.lconst 0, 1) := by decide +kernel
theorem dX7_odds_105 : decode cX7_odds 105 = .ok (.ladd, 1) := by decide +kernel
theorem dX7_odds_106 : decode cX7_odds 106 = .ok (.lstore 4, 2) := by decide +kernel
theorem dX7_odds_108 : decode cX7_odds 108 = .ok (.iinc 8 1, 3) := by decide +kernel
theorem dX7_odds_111 : decode cX7_odds 111 = .ok (.goto (-68), 3) := by decide +kernel
theorem dX7_odds_114 : decode cX7_odds 114 = .ok (.lload 4, 2) := by decide +kernel
theorem dX7_odds_116 : decode cX7_odds 116 = .ok (.lload 6, 2) := by decide +kernel
theorem dX7_odds_118 : decode cX7_odds 118 = .ok (.iload_n 3, 1) := by decide +kernel
theorem dX7_odds_119 : decode cX7_odds 119 = .ok (.invokestatic 228, 3) := by decide +kernel
theorem dX7_odds_122 : decode cX7_odds 122 = .ok (.lreturn, 1) := by decide +kernel
theorem dX7_noSheet_0 : decode cX7_noSheet 0 = .ok (.iload_n 0, 1) := by decide +kernel
theorem dX7_noSheet_1 : decode cX7_noSheet 1 = .ok (.i2l, 1) := by decide +kernel
theorem dX7_noSheet_2 : decode cX7_noSheet 2 = .ok (.lconst 0, 1) := by decide +kernel
theorem dX7_noSheet_3 : decode cX7_noSheet 3 = .ok (.ldc2_w 164, 3) := by decide +kernel
theorem dX7_noSheet_6 : decode cX7_noSheet 6 = .ok (.invokestatic 87, 3) := by decide +kernel
theorem dX7_noSheet_9 : decode cX7_noSheet 9 = .ok (.ifCond .ne 7, 3) := by decide +kernel
theorem dX7_noSheet_12 : decode cX7_noSheet 12 = .ok (.iconst 1, 1) := by decide +kernel
theorem dX7_noSheet_13 : decode cX7_noSheet 13 = .ok (.goto 4, 3) := by decide +kernel
theorem dX7_noSheet_16 : decode cX7_noSheet 16 = .ok (.iconst 0, 1) := by decide +kernel
theorem dX7_noSheet_17 : decode cX7_noSheet 17 = .ok (.ireturn, 1) := by decide +kernel
theorem dX7_sheet_0 : decode cX7_sheet 0 = .ok (.iload_n 1, 1) := by decide +kernel
theorem dX7_sheet_1 : decode cX7_sheet 1 = .ok (.invokestatic 136, 3) := by decide +kernel
theorem dX7_sheet_4 : decode cX7_sheet 4 = .ok (.ifCond .eq 9, 3) := by decide +kernel
theorem dX7_sheet_7 : decode cX7_sheet 7 = .ok (.aload_n 0, 1) := by decide +kernel
theorem dX7_sheet_8 : decode cX7_sheet 8 = .ok (.iconst (-1), 1) := by decide +kernel
theorem dX7_sheet_9 : decode cX7_sheet 9 = .ok (.invokevirtual 140, 3) := by decide +kernel
theorem dX7_sheet_12 : decode cX7_sheet 12 = .ok (.ireturn, 1) := by decide +kernel
theorem dX7_sheet_13 : decode cX7_sheet 13 = .ok (.iload_n 2, 1) := by decide +kernel
theorem dX7_sheet_14 : decode cX7_sheet 14 = .ok (.i2l, 1) := by decide +kernel
theorem dX7_sheet_15 : decode cX7_sheet 15 = .ok (.lconst 0, 1) := by decide +kernel
theorem dX7_sheet_16 : decode cX7_sheet 16 = .ok (.ldc2_w 143, 3) := by decide +kernel
theorem dX7_sheet_19 : decode cX7_sheet 19 = .ok (.invokestatic 87, 3) := by decide +kernel
theorem dX7_sheet_22 : decode cX7_sheet 22 = .ok (.ifCond .eq 9, 3) := by decide +kernel
theorem dX7_sheet_25 : decode cX7_sheet 25 = .ok (.iload_n 3, 1) := by decide +kernel
theorem dX7_sheet_26 : decode cX7_sheet 26 = .ok (.bipush 60, 2) := by decide +kernel
theorem dX7_sheet_28 : decode cX7_sheet 28 = .ok (.if_icmp .le 10, 3) := by decide +kernel
theorem dX7_sheet_31 : decode cX7_sheet 31 = .ok (.aload_n 0, 1) := by decide +kernel
theorem dX7_sheet_32 : decode cX7_sheet 32 = .ok (.bipush (-2), 2) := by decide +kernel
theorem dX7_sheet_34 : decode cX7_sheet 34 = .ok (.invokevirtual 140, 3) := by decide +kernel
theorem dX7_sheet_37 : decode cX7_sheet 37 = .ok (.ireturn, 1) := by decide +kernel
theorem dX7_sheet_38 : decode cX7_sheet 38 = .ok (.iload_n 3, 1) := by decide +kernel
theorem dX7_sheet_39 : decode cX7_sheet 39 = .ok (.ifCond .ge 9, 3) := by decide +kernel
theorem dX7_sheet_42 : decode cX7_sheet 42 = .ok (.aload_n 0, 1) := by decide +kernel
theorem dX7_sheet_43 : decode cX7_sheet 43 = .ok (.iconst 4, 1) := by decide +kernel
theorem dX7_sheet_44 : decode cX7_sheet 44 = .ok (.invokevirtual 129, 3) := by decide +kernel
theorem dX7_sheet_47 : decode cX7_sheet 47 = .ok (.ireturn, 1) := by decide +kernel
theorem dX7_sheet_48 : decode cX7_sheet 48 = .ok (.aload_n 0, 1) := by decide +kernel
theorem dX7_sheet_49 : decode cX7_sheet 49 = .ok (.getfield 62, 3) := by decide +kernel
theorem dX7_sheet_52 : decode cX7_sheet 52 = .ok (.iload_n 1, 1) := by decide +kernel
theorem dX7_sheet_53 : decode cX7_sheet 53 = .ok (.iload_n 3, 1) := by decide +kernel
theorem dX7_sheet_54 : decode cX7_sheet 54 = .ok (.iastore, 1) := by decide +kernel
theorem dX7_sheet_55 : decode cX7_sheet 55 = .ok (.aload_n 0, 1) := by decide +kernel
theorem dX7_sheet_56 : decode cX7_sheet 56 = .ok (.getfield 65, 3) := by decide +kernel
theorem dX7_sheet_59 : decode cX7_sheet 59 = .ok (.iload_n 1, 1) := by decide +kernel
theorem dX7_sheet_60 : decode cX7_sheet 60 = .ok (.iload_n 2, 1) := by decide +kernel
theorem dX7_sheet_61 : decode cX7_sheet 61 = .ok (.iastore, 1) := by decide +kernel
theorem dX7_sheet_62 : decode cX7_sheet 62 = .ok (.iconst 0, 1) := by decide +kernel
theorem dX7_sheet_63 : decode cX7_sheet 63 = .ok (.istore 4, 2) := by decide +kernel
theorem dX7_sheet_65 : decode cX7_sheet 65 = .ok (.iload 4, 2) := by decide +kernel
theorem dX7_sheet_67 : decode cX7_sheet 67 = .ok (.iload_n 3, 1) := by decide +kernel
theorem dX7_sheet_68 : decode cX7_sheet 68 = .ok (.if_icmp .ge 22, 3) := by decide +kernel
theorem dX7_sheet_71 : decode cX7_sheet 71 = .ok (.aload_n 0, 1) := by decide +kernel
theorem dX7_sheet_72 : decode cX7_sheet 72 = .ok (.getfield 68, 3) := by decide +kernel
theorem dX7_sheet_75 : decode cX7_sheet 75 = .ok (.bipush 60, 2) := by decide +kernel
theorem dX7_sheet_77 : decode cX7_sheet 77 = .ok (.iload_n 1, 1) := by decide +kernel
theorem dX7_sheet_78 : decode cX7_sheet 78 = .ok (.imul, 1) := by decide +kernel
theorem dX7_sheet_79 : decode cX7_sheet 79 = .ok (.iload 4, 2) := by decide +kernel
theorem dX7_sheet_81 : decode cX7_sheet 81 = .ok (.iadd, 1) := by decide +kernel
theorem dX7_sheet_82 : decode cX7_sheet 82 = .ok (.iconst 0, 1) := by decide +kernel
theorem dX7_sheet_83 : decode cX7_sheet 83 = .ok (.iastore, 1) := by decide +kernel
theorem dX7_sheet_84 : decode cX7_sheet 84 = .ok (.iinc 4 1, 3) := by decide +kernel
theorem dX7_sheet_87 : decode cX7_sheet 87 = .ok (.goto (-22), 3) := by decide +kernel
theorem dX7_sheet_90 : decode cX7_sheet 90 = .ok (.aload_n 0, 1) := by decide +kernel
theorem dX7_sheet_91 : decode cX7_sheet 91 = .ok (.iconst 1, 1) := by decide +kernel
theorem dX7_sheet_92 : decode cX7_sheet 92 = .ok (.invokevirtual 140, 3) := by decide +kernel
theorem dX7_sheet_95 : decode cX7_sheet 95 = .ok (.ireturn, 1) := by decide +kernel
theorem dX7_lose_0 : decode cX7_lose 0 = .ok (.iload_n 1, 1) := by decide +kernel
theorem dX7_lose_1 : decode cX7_lose 1 = .ok (.invokestatic 136, 3) := by decide +kernel
theorem dX7_lose_4 : decode cX7_lose 4 = .ok (.ifCond .eq 5, 3) := by decide +kernel
theorem dX7_lose_7 : decode cX7_lose 7 = .ok (.iconst (-1), 1) := by decide +kernel
theorem dX7_lose_8 : decode cX7_lose 8 = .ok (.ireturn, 1) := by decide +kernel
theorem dX7_lose_9 : decode cX7_lose 9 = .ok (.aload_n 0, 1) := by decide +kernel
theorem dX7_lose_10 : decode cX7_lose 10 = .ok (.getfield 62, 3) := by decide +kernel
theorem dX7_lose_13 : decode cX7_lose 13 = .ok (.iload_n 1, 1) := by decide +kernel
theorem dX7_lose_14 : decode cX7_lose 14 = .ok (.iaload, 1) := by decide +kernel
theorem dX7_lose_15 : decode cX7_lose 15 = .ok (.ifCond .ge 7, 3) := by decide +kernel
theorem dX7_lose_18 : decode cX7_lose 18 = .ok (.iconst 0, 1) := by decide +kernel
theorem dX7_lose_19 : decode cX7_lose 19 = .ok (.goto 4, 3) := by decide +kernel
theorem dX7_lose_22 : decode cX7_lose 22 = .ok (.iconst 1, 1) := by decide +kernel
theorem dX7_lose_23 : decode cX7_lose 23 = .ok (.istore_n 2, 1) := by decide +kernel
theorem dX7_lose_24 : decode cX7_lose 24 = .ok (.aload_n 0, 1) := by decide +kernel
theorem dX7_lose_25 : decode cX7_lose 25 = .ok (.getfield 62, 3) := by decide +kernel
theorem dX7_lose_28 : decode cX7_lose 28 = .ok (.iload_n 1, 1) := by decide +kernel
theorem dX7_lose_29 : decode cX7_lose 29 = .ok (.iconst (-1), 1) := by decide +kernel
theorem dX7_lose_30 : decode cX7_lose 30 = .ok (.iastore, 1) := by decide +kernel
theorem dX7_lose_31 : decode cX7_lose 31 = .ok (.iload_n 2, 1) := by decide +kernel
theorem dX7_lose_32 : decode cX7_lose 32 = .ok (.ireturn, 1) := by decide +kernel
theorem dX7_noCell_0 : decode cX7_noCell 0 = .ok (.aload_n 0, 1) := by decide +kernel
theorem dX7_noCell_1 : decode cX7_noCell 1 = .ok (.getfield 62, 3) := by decide +kernel
theorem dX7_noCell_4 : decode cX7_noCell 4 = .ok (.iload_n 1, 1) := by decide +kernel
theorem dX7_noCell_5 : decode cX7_noCell 5 = .ok (.iaload, 1) := by decide +kernel
theorem dX7_noCell_6 : decode cX7_noCell 6 = .ok (.ifCond .ge 7, 3) := by decide +kernel
theorem dX7_noCell_9 : decode cX7_noCell 9 = .ok (.iconst 1, 1) := by decide +kernel
theorem dX7_noCell_10 : decode cX7_noCell 10 = .ok (.goto 26, 3) := by decide +kernel
theorem dX7_noCell_13 : decode cX7_noCell 13 = .ok (.iload_n 2, 1) := by decide +kernel
theorem dX7_noCell_14 : decode cX7_noCell 14 = .ok (.i2l, 1) := by decide +kernel
theorem dX7_noCell_15 : decode cX7_noCell 15 = .ok (.lconst 0, 1) := by decide +kernel
theorem dX7_noCell_16 : decode cX7_noCell 16 = .ok (.aload_n 0, 1) := by decide +kernel
theorem dX7_noCell_17 : decode cX7_noCell 17 = .ok (.getfield 62, 3) := by decide +kernel
theorem dX7_noCell_20 : decode cX7_noCell 20 = .ok (.iload_n 1, 1) := by decide +kernel
theorem dX7_noCell_21 : decode cX7_noCell 21 = .ok (.iaload, 1) := by decide +kernel
theorem dX7_noCell_22 : decode cX7_noCell 22 = .ok (.i2l, 1) := by decide +kernel
theorem dX7_noCell_23 : decode cX7_noCell 23 = .ok (.lconst 1, 1) := by decide +kernel
theorem dX7_noCell_24 : decode cX7_noCell 24 = .ok (.lsub, 1) := by decide +kernel
theorem dX7_noCell_25 : decode cX7_noCell 25 = .ok (.invokestatic 87, 3) := by decide +kernel
theorem dX7_noCell_28 : decode cX7_noCell 28 = .ok (.ifCond .eq 7, 3) := by decide +kernel
theorem dX7_noCell_31 : decode cX7_noCell 31 = .ok (.iconst 0, 1) := by decide +kernel
theorem dX7_noCell_32 : decode cX7_noCell 32 = .ok (.goto 4, 3) := by decide +kernel
theorem dX7_noCell_35 : decode cX7_noCell 35 = .ok (.iconst 3, 1) := by decide +kernel
theorem dX7_noCell_36 : decode cX7_noCell 36 = .ok (.ireturn, 1) := by decide +kernel
theorem dX7_put_0 : decode cX7_put 0 = .ok (.iload_n 1, 1) := by decide +kernel
theorem dX7_put_1 : decode cX7_put 1 = .ok (.invokestatic 136, 3) := by decide +kernel
theorem dX7_put_4 : decode cX7_put 4 = .ok (.ifCond .eq 9, 3) := by decide +kernel
theorem dX7_put_7 : decode cX7_put 7 = .ok (.aload_n 0, 1) := by decide +kernel
theorem dX7_put_8 : decode cX7_put 8 = .ok (.iconst (-1), 1) := by decide +kernel
theorem dX7_put_9 : decode cX7_put 9 = .ok (.invokevirtual 140, 3) := by decide +kernel
theorem dX7_put_12 : decode cX7_put 12 = .ok (.ireturn, 1) := by decide +kernel
theorem dX7_put_13 : decode cX7_put 13 = .ok (.aload_n 0, 1) := by decide +kernel
theorem dX7_put_14 : decode cX7_put 14 = .ok (.iload_n 1, 1) := by decide +kernel
theorem dX7_put_15 : decode cX7_put 15 = .ok (.iload_n 2, 1) := by decide +kernel
theorem dX7_put_16 : decode cX7_put 16 = .ok (.invokevirtual 232, 3) := by decide +kernel
theorem dX7_put_19 : decode cX7_put 19 = .ok (.ifCond .le 14, 3) := by decide +kernel
theorem dX7_put_22 : decode cX7_put 22 = .ok (.aload_n 0, 1) := by decide +kernel
theorem dX7_put_23 : decode cX7_put 23 = .ok (.aload_n 0, 1) := by decide +kernel
theorem dX7_put_24 : decode cX7_put 24 = .ok (.iload_n 1, 1) := by decide +kernel
theorem dX7_put_25 : decode cX7_put 25 = .ok (.iload_n 2, 1) := by decide +kernel
theorem dX7_put_26 : decode cX7_put 26 = .ok (.invokevirtual 232, 3) := by decide +kernel
theorem dX7_put_29 : decode cX7_put 29 = .ok (.invokevirtual 129, 3) := by decide +kernel
theorem dX7_put_32 : decode cX7_put 32 = .ok (.ireturn, 1) := by decide +kernel
theorem dX7_put_33 : decode cX7_put 33 = .ok (.aload_n 0, 1) := by decide +kernel
theorem dX7_put_34 : decode cX7_put 34 = .ok (.getfield 68, 3) := by decide +kernel
theorem dX7_put_37 : decode cX7_put 37 = .ok (.bipush 60, 2) := by decide +kernel
theorem dX7_put_39 : decode cX7_put 39 = .ok (.iload_n 1, 1) := by decide +kernel
theorem dX7_put_40 : decode cX7_put 40 = .ok (.imul, 1) := by decide +kernel
theorem dX7_put_41 : decode cX7_put 41 = .ok (.iload_n 2, 1) := by decide +kernel
theorem dX7_put_42 : decode cX7_put 42 = .ok (.iadd, 1) := by decide +kernel
theorem dX7_put_43 : decode cX7_put 43 = .ok (.aload_n 0, 1) := by decide +kernel
theorem dX7_put_44 : decode cX7_put 44 = .ok (.getfield 65, 3) := by decide +kernel
theorem dX7_put_47 : decode cX7_put 47 = .ok (.iload_n 1, 1) := by decide +kernel
theorem dX7_put_48 : decode cX7_put 48 = .ok (.iaload, 1) := by decide +kernel
theorem dX7_put_49 : decode cX7_put 49 = .ok (.ifCond .ne 8, 3) := by decide +kernel
theorem dX7_put_52 : decode cX7_put 52 = .ok (.iload_n 3, 1) := by decide +kernel
theorem dX7_put_53 : decode cX7_put 53 = .ok (.i2b, 1) := by decide +kernel
theorem dX7_put_54 : decode cX7_put 54 = .ok (.goto 19, 3) := by decide +kernel
theorem dX7_put_57 : decode cX7_put 57 = .ok (.aload_n 0, 1) := by decide +kernel
theorem dX7_put_58 : decode cX7_put 58 = .ok (.getfield 65, 3) := by decide +kernel
theorem dX7_put_61 : decode cX7_put 61 = .ok (.iload_n 1, 1) := by decide +kernel
theorem dX7_put_62 : decode cX7_put 62 = .ok (.iaload, 1) := by decide +kernel
theorem dX7_put_63 : decode cX7_put 63 = .ok (.iconst 1, 1) := by decide +kernel
theorem dX7_put_64 : decode cX7_put 64 = .ok (.if_icmp .ne 8, 3) := by decide +kernel
theorem dX7_put_67 : decode cX7_put 67 = .ok (.iload_n 3, 1) := by decide +kernel
theorem dX7_put_68 : decode cX7_put 68 = .ok (.i2s, 1) := by decide +kernel
theorem dX7_put_69 : decode cX7_put 69 = .ok (.goto 4, 3) := by decide +kernel
theorem dX7_put_72 : decode cX7_put 72 = .ok (.iload_n 3, 1) := by decide +kernel
theorem dX7_put_73 : decode cX7_put 73 = .ok (.iastore, 1) := by decide +kernel
theorem dX7_put_74 : decode cX7_put 74 = .ok (.aload_n 0, 1) := by decide +kernel
theorem dX7_put_75 : decode cX7_put 75 = .ok (.iconst 1, 1) := by decide +kernel
theorem dX7_put_76 : decode cX7_put 76 = .ok (.invokevirtual 140, 3) := by decide +kernel
theorem dX7_put_79 : decode cX7_put 79 = .ok (.ireturn, 1) := by decide +kernel
theorem dX7_cell_0 : decode cX7_cell 0 = .ok (.aload_n 0, 1) := by decide +kernel
theorem dX7_cell_1 : decode cX7_cell 1 = .ok (.iconst 0, 1) := by decide +kernel
theorem dX7_cell_2 : decode cX7_cell 2 = .ok (.putfield 76, 3) := by decide +kernel
theorem dX7_cell_5 : decode cX7_cell 5 = .ok (.iload_n 1, 1) := by decide +kernel
theorem dX7_cell_6 : decode cX7_cell 6 = .ok (.invokestatic 136, 3) := by decide +kernel
theorem dX7_cell_9 : decode cX7_cell 9 = .ok (.ifCond .ne 15, 3) := by decide +kernel
theorem dX7_cell_12 : decode cX7_cell 12 = .ok (.iload_n 3, 1) := by decide +kernel
theorem dX7_cell_13 : decode cX7_cell 13 = .ok (.i2l, 1) := by decide +kernel
theorem dX7_cell_14 : decode cX7_cell 14 = .ok (.lconst 0, 1) := by decide +kernel
theorem dX7_cell_15 : decode cX7_cell 15 = .ok (.ldc2_w 143, 3) := by decide +kernel
theorem dX7_cell_18 : decode cX7_cell 18 = .ok (.invokestatic 87, 3) := by decide +kernel
theorem dX7_cell_21 : decode cX7_cell 21 = .ok (.ifCond .ne 7, 3) := by decide +kernel
theorem dX7_cell_24 : decode cX7_cell 24 = .ok (.invokestatic 80, 3) := by decide +kernel
theorem dX7_cell_27 : decode cX7_cell 27 = .ok (.lreturn, 1) := by decide +kernel
theorem dX7_cell_28 : decode cX7_cell 28 = .ok (.aload_n 0, 1) := by decide +kernel
theorem dX7_cell_29 : decode cX7_cell 29 = .ok (.getfield 62, 3) := by decide +kernel
theorem dX7_cell_32 : decode cX7_cell 32 = .ok (.iload_n 1, 1) := by decide +kernel
theorem dX7_cell_33 : decode cX7_cell 33 = .ok (.iaload, 1) := by decide +kernel
theorem dX7_cell_34 : decode cX7_cell 34 = .ok (.ifCond .lt 19, 3) := by decide +kernel
theorem dX7_cell_37 : decode cX7_cell 37 = .ok (.aload_n 0, 1) := by decide +kernel
theorem dX7_cell_38 : decode cX7_cell 38 = .ok (.getfield 65, 3) := by decide +kernel
theorem dX7_cell_41 : decode cX7_cell 41 = .ok (.iload_n 1, 1) := by decide +kernel
theorem dX7_cell_42 : decode cX7_cell 42 = .ok (.iaload, 1) := by decide +kernel
theorem dX7_cell_43 : decode cX7_cell 43 = .ok (.iload_n 3, 1) := by decide +kernel
theorem dX7_cell_44 : decode cX7_cell 44 = .ok (.if_icmp .eq 9, 3) := by decide +kernel
theorem dX7_cell_47 : decode cX7_cell 47 = .ok (.aload_n 0, 1) := by decide +kernel
theorem dX7_cell_48 : decode cX7_cell 48 = .ok (.iconst 2, 1) := by decide +kernel
theorem dX7_cell_49 : decode cX7_cell 49 = .ok (.invokevirtual 235, 3) := by decide +kernel
theorem dX7_cell_52 : decode cX7_cell 52 = .ok (.lreturn, 1) := by decide +kernel
theorem dX7_cell_53 : decode cX7_cell 53 = .ok (.aload_n 0, 1) := by decide +kernel
theorem dX7_cell_54 : decode cX7_cell 54 = .ok (.iload_n 1, 1) := by decide +kernel
theorem dX7_cell_55 : decode cX7_cell 55 = .ok (.iload_n 2, 1) := by decide +kernel
theorem dX7_cell_56 : decode cX7_cell 56 = .ok (.invokevirtual 232, 3) := by decide +kernel
theorem dX7_cell_59 : decode cX7_cell 59 = .ok (.ifCond .le 16, 3) := by decide +kernel
theorem dX7_cell_62 : decode cX7_cell 62 = .ok (.aload_n 0, 1) := by decide +kernel
theorem dX7_cell_63 : decode cX7_cell 63 = .ok (.aload_n 0, 1) := by decide +kernel
theorem dX7_cell_64 : decode cX7_cell 64 = .ok (.iload_n 1, 1) := by decide +kernel
theorem dX7_cell_65 : decode cX7_cell 65 = .ok (.iload_n 2, 1) := by decide +kernel
theorem dX7_cell_66 : decode cX7_cell 66 = .ok (.invokevirtual 232, 3) := by decide +kernel
theorem dX7_cell_69 : decode cX7_cell 69 = .ok (.invokevirtual 235, 3) := by decide +kernel
theorem dX7_cell_72 : decode cX7_cell 72 = .ok (.goto 15, 3) := by decide +kernel
theorem dX7_cell_75 : decode cX7_cell 75 = .ok (.aload_n 0, 1) := by decide +kernel
theorem dX7_cell_76 : decode cX7_cell 76 = .ok (.getfield 68, 3) := by decide +kernel
theorem dX7_cell_79 : decode cX7_cell 79 = .ok (.bipush 60, 2) := by decide +kernel
theorem dX7_cell_81 : decode cX7_cell 81 = .ok (.iload_n 1, 1) := by decide +kernel
theorem dX7_cell_82 : decode cX7_cell 82 = .ok (.imul, 1) := by decide +kernel
theorem dX7_cell_83 : decode cX7_cell 83 = .ok (.iload_n 2, 1) := by decide +kernel
theorem dX7_cell_84 : decode cX7_cell 84 = .ok (.iadd, 1) := by decide +kernel
theorem dX7_cell_85 : decode cX7_cell 85 = .ok (.iaload, 1) := by decide +kernel
theorem dX7_cell_86 : decode cX7_cell 86 = .ok (.i2l, 1) := by decide +kernel
theorem dX7_cell_87 : decode cX7_cell 87 = .ok (.lreturn, 1) := by decide +kernel
theorem dX7_isBeyond_0 : decode cX7_isBeyond 0 = .ok (.iload_n 0, 1) := by decide +kernel
theorem dX7_isBeyond_1 : decode cX7_isBeyond 1 = .ok (.ifCond .lt 19, 3) := by decide +kernel
theorem dX7_isBeyond_4 : decode cX7_isBeyond 4 = .ok (.lload_n 1, 1) := by decide +kernel
theorem dX7_isBeyond_5 : decode cX7_isBeyond 5 = .ok (.lconst 0, 1) := by decide +kernel
theorem dX7_isBeyond_6 : decode cX7_isBeyond 6 = .ok (.lcmp, 1) := by decide +kernel
theorem dX7_isBeyond_7 : decode cX7_isBeyond 7 = .ok (.ifCond .lt 13, 3) := by decide +kernel
theorem dX7_isBeyond_10 : decode cX7_isBeyond 10 = .ok (.iload_n 0, 1) := by decide +kernel
theorem dX7_isBeyond_11 : decode cX7_isBeyond 11 = .ok (.i2l, 1) := by decide +kernel
theorem dX7_isBeyond_12 : decode cX7_isBeyond 12 = .ok (.lload_n 1, 1) := by decide +kernel
theorem dX7_isBeyond_13 : decode cX7_isBeyond 13 = .ok (.ladd, 1) := by decide +kernel
theorem dX7_isBeyond_14 : decode cX7_isBeyond 14 = .ok (.iload_n 3, 1) := by decide +kernel
theorem dX7_isBeyond_15 : decode cX7_isBeyond 15 = .ok (.i2l, 1) := by decide +kernel
theorem dX7_isBeyond_16 : decode cX7_isBeyond 16 = .ok (.lcmp, 1) := by decide +kernel
theorem dX7_isBeyond_17 : decode cX7_isBeyond 17 = .ok (.ifCond .le 7, 3) := by decide +kernel
theorem dX7_isBeyond_20 : decode cX7_isBeyond 20 = .ok (.iconst 1, 1) := by decide +kernel
theorem dX7_isBeyond_21 : decode cX7_isBeyond 21 = .ok (.goto 4, 3) := by decide +kernel
theorem dX7_isBeyond_24 : decode cX7_isBeyond 24 = .ok (.iconst 0, 1) := by decide +kernel
theorem dX7_isBeyond_25 : decode cX7_isBeyond 25 = .ok (.ireturn, 1) := by decide +kernel
theorem dX7_copy_0 : decode cX7_copy 0 = .ok (.iload_n 1, 1) := by decide +kernel
theorem dX7_copy_1 : decode cX7_copy 1 = .ok (.invokestatic 136, 3) := by decide +kernel
theorem dX7_copy_4 : decode cX7_copy 4 = .ok (.ifCond .ne 10, 3) := by decide +kernel
theorem dX7_copy_7 : decode cX7_copy 7 = .ok (.iload_n 3, 1) := by decide +kernel
theorem dX7_copy_8 : decode cX7_copy 8 = .ok (.invokestatic 136, 3) := by decide +kernel
theorem dX7_copy_11 : decode cX7_copy 11 = .ok (.ifCond .eq 9, 3) := by decide +kernel
theorem dX7_copy_14 : decode cX7_copy 14 = .ok (.aload_n 0, 1) := by decide +kernel
theorem dX7_copy_15 : decode cX7_copy 15 = .ok (.iconst (-1), 1) := by decide +kernel
theorem dX7_copy_16 : decode cX7_copy 16 = .ok (.invokevirtual 140, 3) := by decide +kernel
theorem dX7_copy_19 : decode cX7_copy 19 = .ok (.ireturn, 1) := by decide +kernel
theorem dX7_copy_20 : decode cX7_copy 20 = .ok (.aload_n 0, 1) := by decide +kernel
theorem dX7_copy_21 : decode cX7_copy 21 = .ok (.getfield 62, 3) := by decide +kernel
theorem dX7_copy_24 : decode cX7_copy 24 = .ok (.iload_n 1, 1) := by decide +kernel
theorem dX7_copy_25 : decode cX7_copy 25 = .ok (.iaload, 1) := by decide +kernel
theorem dX7_copy_26 : decode cX7_copy 26 = .ok (.ifCond .lt 12, 3) := by decide +kernel
theorem dX7_copy_29 : decode cX7_copy 29 = .ok (.aload_n 0, 1) := by decide +kernel
theorem dX7_copy_30 : decode cX7_copy 30 = .ok (.getfield 62, 3) := by decide +kernel
theorem dX7_copy_33 : decode cX7_copy 33 = .ok (.iload_n 3, 1) := by decide +kernel
theorem dX7_copy_34 : decode cX7_copy 34 = .ok (.iaload, 1) := by decide +kernel
theorem dX7_copy_35 : decode cX7_copy 35 = .ok (.ifCond .ge 9, 3) := by decide +kernel
theorem dX7_copy_38 : decode cX7_copy 38 = .ok (.aload_n 0, 1) := by decide +kernel
theorem dX7_copy_39 : decode cX7_copy 39 = .ok (.iconst 1, 1) := by decide +kernel
theorem dX7_copy_40 : decode cX7_copy 40 = .ok (.invokevirtual 129, 3) := by decide +kernel
theorem dX7_copy_43 : decode cX7_copy 43 = .ok (.ireturn, 1) := by decide +kernel
theorem dX7_copy_44 : decode cX7_copy 44 = .ok (.aload_n 0, 1) := by decide +kernel
theorem dX7_copy_45 : decode cX7_copy 45 = .ok (.getfield 65, 3) := by decide +kernel
theorem dX7_copy_48 : decode cX7_copy 48 = .ok (.iload_n 1, 1) := by decide +kernel
theorem dX7_copy_49 : decode cX7_copy 49 = .ok (.iaload, 1) := by decide +kernel
theorem dX7_copy_50 : decode cX7_copy 50 = .ok (.aload_n 0, 1) := by decide +kernel
theorem dX7_copy_51 : decode cX7_copy 51 = .ok (.getfield 65, 3) := by decide +kernel
theorem dX7_copy_54 : decode cX7_copy 54 = .ok (.iload_n 3, 1) := by decide +kernel
theorem dX7_copy_55 : decode cX7_copy 55 = .ok (.iaload, 1) := by decide +kernel
theorem dX7_copy_56 : decode cX7_copy 56 = .ok (.if_icmp .eq 9, 3) := by decide +kernel
theorem dX7_copy_59 : decode cX7_copy 59 = .ok (.aload_n 0, 1) := by decide +kernel
theorem dX7_copy_60 : decode cX7_copy 60 = .ok (.iconst 2, 1) := by decide +kernel
theorem dX7_copy_61 : decode cX7_copy 61 = .ok (.invokevirtual 129, 3) := by decide +kernel
theorem dX7_copy_64 : decode cX7_copy 64 = .ok (.ireturn, 1) := by decide +kernel
theorem dX7_copy_65 : decode cX7_copy 65 = .ok (.iload_n 2, 1) := by decide +kernel
theorem dX7_copy_66 : decode cX7_copy 66 = .ok (.iload 5, 2) := by decide +kernel
theorem dX7_copy_68 : decode cX7_copy 68 = .ok (.i2l, 1) := by decide +kernel
theorem dX7_copy_69 : decode cX7_copy 69 = .ok (.aload_n 0, 1) := by decide +kernel
theorem dX7_copy_70 : decode cX7_copy 70 = .ok (.getfield 62, 3) := by decide +kernel
theorem dX7_copy_73 : decode cX7_copy 73 = .ok (.iload_n 1, 1) := by decide +kernel
theorem dX7_copy_74 : decode cX7_copy 74 = .ok (.iaload, 1) := by decide +kernel
theorem dX7_copy_75 : decode cX7_copy 75 = .ok (.invokestatic 132, 3) := by decide +kernel
theorem dX7_copy_78 : decode cX7_copy 78 = .ok (.ifCond .ne 20, 3) := by decide +kernel
theorem dX7_copy_81 : decode cX7_copy 81 = .ok (.iload 4, 2) := by decide +kernel
theorem dX7_copy_83 : decode cX7_copy 83 = .ok (.iload 5, 2) := by decide +kernel
theorem dX7_copy_85 : decode cX7_copy 85 = .ok (.i2l, 1) := by decide +kernel
theorem dX7_copy_86 : decode cX7_copy 86 = .ok (.aload_n 0, 1) := by decide +kernel
theorem dX7_copy_87 : decode cX7_copy 87 = .ok (.getfield 62, 3) := by decide +kernel
theorem dX7_copy_90 : decode cX7_copy 90 = .ok (.iload_n 3, 1) := by decide +kernel
theorem dX7_copy_91 : decode cX7_copy 91 = .ok (.iaload, 1) := by decide +kernel
theorem dX7_copy_92 : decode cX7_copy 92 = .ok (.invokestatic 132, 3) := by decide +kernel
theorem dX7_copy_95 : decode cX7_copy 95 = .ok (.ifCond .eq 9, 3) := by decide +kernel
theorem dX7_copy_98 : decode cX7_copy 98 = .ok (.aload_n 0, 1) := by decide +kernel
theorem dX7_copy_99 : decode cX7_copy 99 = .ok (.iconst 3, 1) := by decide +kernel
theorem dX7_copy_100 : decode cX7_copy 100 = .ok (.invokevirtual 129, 3) := by decide +kernel
theorem dX7_copy_103 : decode cX7_copy 103 = .ok (.ireturn, 1) := by decide +kernel
theorem dX7_copy_104 : decode cX7_copy 104 = .ok (.iconst 0, 1) := by decide +kernel
theorem dX7_copy_105 : decode cX7_copy 105 = .ok (.istore 6, 2) := by decide +kernel
theorem dX7_copy_107 : decode cX7_copy 107 = .ok (.iload 6, 2) := by decide +kernel
theorem dX7_copy_109 : decode cX7_copy 109 = .ok (.iload 5, 2) := by decide +kernel
theorem dX7_copy_111 : decode cX7_copy 111 = .ok (.if_icmp .ge 30, 3) := by decide +kernel
theorem dX7_copy_114 : decode cX7_copy 114 = .ok (.aload_n 0, 1) := by decide +kernel
theorem dX7_copy_115 : decode cX7_copy 115 = .ok (.getfield 71, 3) := by decide +kernel
theorem dX7_copy_118 : decode cX7_copy 118 = .ok (.iload 6, 2) := by decide +kernel
theorem dX7_copy_120 : decode cX7_copy 120 = .ok (.aload_n 0, 1) := by decide +kernel
theorem dX7_copy_121 : decode cX7_copy 121 = .ok (.getfield 68, 3) := by decide +kernel
theorem dX7_copy_124 : decode cX7_copy 124 = .ok (.bipush 60, 2) := by decide +kernel
theorem dX7_copy_126 : decode cX7_copy 126 = .ok (.iload_n 1, 1) := by decide +kernel
theorem dX7_copy_127 : decode cX7_copy 127 = .ok (.imul, 1) := by decide +kernel
theorem dX7_copy_128 : decode cX7_copy 128 = .ok (.iload_n 2, 1) := by decide +kernel
theorem dX7_copy_129 : decode cX7_copy 129 = .ok (.iadd, 1) := by decide +kernel
theorem dX7_copy_130 : decode cX7_copy 130 = .ok (.iload 6, 2) := by decide +kernel
theorem dX7_copy_132 : decode cX7_copy 132 = .ok (.iadd, 1) := by decide +kernel
theorem dX7_copy_133 : decode cX7_copy 133 = .ok (.iaload, 1) := by decide +kernel
theorem dX7_copy_134 : decode cX7_copy 134 = .ok (.iastore, 1) := by decide +kernel
theorem dX7_copy_135 : decode cX7_copy 135 = .ok (.iinc 6 1, 3) := by decide +kernel
theorem dX7_copy_138 : decode cX7_copy 138 = .ok (.goto (-31), 3) := by decide +kernel
theorem dX7_copy_141 : decode cX7_copy 141 = .ok (.iconst 0, 1) := by decide +kernel
theorem dX7_copy_142 : decode cX7_copy 142 = .ok (.istore 6, 2) := by decide +kernel
theorem dX7_copy_144 : decode cX7_copy 144 = .ok (.iload 6, 2) := by decide +kernel
theorem dX7_copy_146 : decode cX7_copy 146 = .ok (.iload 5, 2) := by decide +kernel
theorem dX7_copy_148 : decode cX7_copy 148 = .ok (.if_icmp .ge 31, 3) := by decide +kernel
theorem dX7_copy_151 : decode cX7_copy 151 = .ok (.aload_n 0, 1) := by decide +kernel
theorem dX7_copy_152 : decode cX7_copy 152 = .ok (.getfield 68, 3) := by decide +kernel
theorem dX7_copy_155 : decode cX7_copy 155 = .ok (.bipush 60, 2) := by decide +kernel
theorem dX7_copy_157 : decode cX7_copy 157 = .ok (.iload_n 3, 1) := by decide +kernel
theorem dX7_copy_158 : decode cX7_copy 158 = .ok (.imul, 1) := by decide +kernel
theorem dX7_copy_159 : decode cX7_copy 159 = .ok (.iload 4, 2) := by decide +kernel
theorem dX7_copy_161 : decode cX7_copy 161 = .ok (.iadd, 1) := by decide +kernel
theorem dX7_copy_162 : decode cX7_copy 162 = .ok (.iload 6, 2) := by decide +kernel
theorem dX7_copy_164 : decode cX7_copy 164 = .ok (.iadd, 1) := by decide +kernel
theorem dX7_copy_165 : decode cX7_copy 165 = .ok (.aload_n 0, 1) := by decide +kernel
theorem dX7_copy_166 : decode cX7_copy 166 = .ok (.getfield 71, 3) := by decide +kernel
theorem dX7_copy_169 : decode cX7_copy 169 = .ok (.iload 6, 2) := by decide +kernel
theorem dX7_copy_171 : decode cX7_copy 171 = .ok (.iaload, 1) := by decide +kernel
theorem dX7_copy_172 : decode cX7_copy 172 = .ok (.iastore, 1) := by decide +kernel
theorem dX7_copy_173 : decode cX7_copy 173 = .ok (.iinc 6 1, 3) := by decide +kernel
theorem dX7_copy_176 : decode cX7_copy 176 = .ok (.goto (-32), 3) := by decide +kernel
theorem dX7_copy_179 : decode cX7_copy 179 = .ok (.aload_n 0, 1) := by decide +kernel
theorem dX7_copy_180 : decode cX7_copy 180 = .ok (.iload 5, 2) := by decide +kernel
theorem dX7_copy_182 : decode cX7_copy 182 = .ok (.invokevirtual 140, 3) := by decide +kernel
theorem dX7_copy_185 : decode cX7_copy 185 = .ok (.ireturn, 1) := by decide +kernel
theorem dX7_traced_0 : decode cX7_traced 0 = .ok (.aload_n 0, 1) := by decide +kernel
theorem dX7_traced_1 : decode cX7_traced 1 = .ok (.bipush 31, 2) := by decide +kernel
theorem dX7_traced_3 : decode cX7_traced 3 = .ok (.aload_n 0, 1) := by decide +kernel
theorem dX7_traced_4 : decode cX7_traced 4 = .ok (.getfield 239, 3) := by decide +kernel
theorem dX7_traced_7 : decode cX7_traced 7 = .ok (.imul, 1) := by decide +kernel
theorem dX7_traced_8 : decode cX7_traced 8 = .ok (.iload_n 1, 1) := by decide +kernel
theorem dX7_traced_9 : decode cX7_traced 9 = .ok (.iadd, 1) := by decide +kernel
theorem dX7_traced_10 : decode cX7_traced 10 = .ok (.putfield 239, 3) := by decide +kernel
theorem dX7_traced_13 : decode cX7_traced 13 = .ok (.return_, 1) := by decide +kernel
theorem dX7_tell_0 : decode cX7_tell 0 = .ok (.aload_n 0, 1) := by decide +kernel
theorem dX7_tell_1 : decode cX7_tell 1 = .ok (.iload_n 1, 1) := by decide +kernel
theorem dX7_tell_2 : decode cX7_tell 2 = .ok (.invokevirtual 158, 3) := by decide +kernel
theorem dX7_tell_5 : decode cX7_tell 5 = .ok (.ifCond .eq 5, 3) := by decide +kernel
theorem dX7_tell_8 : decode cX7_tell 8 = .ok (.iconst (-1), 1) := by decide +kernel
theorem dX7_tell_9 : decode cX7_tell 9 = .ok (.ireturn, 1) := by decide +kernel
theorem dX7_tell_10 : decode cX7_tell 10 = .ok (.aload_n 0, 1) := by decide +kernel
theorem dX7_tell_11 : decode cX7_tell 11 = .ok (.getfield 13, 3) := by decide +kernel
theorem dX7_tell_14 : decode cX7_tell 14 = .ok (.iload_n 1, 1) := by decide +kernel
theorem dX7_tell_15 : decode cX7_tell 15 = .ok (.iaload, 1) := by decide +kernel
theorem dX7_tell_16 : decode cX7_tell 16 = .ok (.istore_n 2, 1) := by decide +kernel
theorem dX7_tell_17 : decode cX7_tell 17 = .ok (.iload_n 2, 1) := by decide +kernel
theorem dX7_tell_18 : decode cX7_tell 18 = .ok (.iconst 2, 1) := by decide +kernel
theorem dX7_tell_19 : decode cX7_tell 19 = .ok (.if_icmp .ne 8, 3) := by decide +kernel
theorem dX7_tell_22 : decode cX7_tell 22 = .ok (.aload_n 0, 1) := by decide +kernel
theorem dX7_tell_23 : decode cX7_tell 23 = .ok (.iconst 3, 1) := by decide +kernel
theorem dX7_tell_24 : decode cX7_tell 24 = .ok (.invokevirtual 242, 3) := by decide +kernel
theorem dX7_tell_27 : decode cX7_tell 27 = .ok (.iload_n 2, 1) := by decide +kernel
theorem dX7_tell_28 : decode cX7_tell 28 = .ok (.ifCond .le 8, 3) := by decide +kernel
theorem dX7_tell_31 : decode cX7_tell 31 = .ok (.aload_n 0, 1) := by decide +kernel
theorem dX7_tell_32 : decode cX7_tell 32 = .ok (.iconst 2, 1) := by decide +kernel
theorem dX7_tell_33 : decode cX7_tell 33 = .ok (.invokevirtual 242, 3) := by decide +kernel
theorem dX7_tell_36 : decode cX7_tell 36 = .ok (.aload_n 0, 1) := by decide +kernel
theorem dX7_tell_37 : decode cX7_tell 37 = .ok (.iconst 1, 1) := by decide +kernel
theorem dX7_tell_38 : decode cX7_tell 38 = .ok (.invokevirtual 242, 3) := by decide +kernel
theorem dX7_tell_41 : decode cX7_tell 41 = .ok (.iload_n 2, 1) := by decide +kernel
theorem dX7_tell_42 : decode cX7_tell 42 = .ok (.iconst 2, 1) := by decide +kernel
theorem dX7_tell_43 : decode cX7_tell 43 = .ok (.if_icmp .ne 8, 3) := by decide +kernel
theorem dX7_tell_46 : decode cX7_tell 46 = .ok (.aload_n 0, 1) := by decide +kernel
theorem dX7_tell_47 : decode cX7_tell 47 = .ok (.iconst 1, 1) := by decide +kernel
theorem dX7_tell_48 : decode cX7_tell 48 = .ok (.invokevirtual 242, 3) := by decide +kernel
theorem dX7_tell_51 : decode cX7_tell 51 = .ok (.aload_n 0, 1) := by decide +kernel
theorem dX7_tell_52 : decode cX7_tell 52 = .ok (.getfield 22, 3) := by decide +kernel
theorem dX7_tell_55 : decode cX7_tell 55 = .ok (.iload_n 1, 1) := by decide +kernel
theorem dX7_tell_56 : decode cX7_tell 56 = .ok (.iaload, 1) := by decide +kernel
theorem dX7_tell_57 : decode cX7_tell 57 = .ok (.istore_n 3, 1) := by decide +kernel
theorem dX7_tell_58 : decode cX7_tell 58 = .ok (.iload_n 2, 1) := by decide +kernel
theorem dX7_tell_59 : decode cX7_tell 59 = .ok (.ifCond .ne 7, 3) := by decide +kernel
theorem dX7_tell_62 : decode cX7_tell 62 = .ok (.iload_n 3, 1) := by decide +kernel
theorem dX7_tell_63 : decode cX7_tell 63 = .ok (.goto 21, 3) := by decide +kernel
theorem dX7_tell_66 : decode cX7_tell 66 = .ok (.iload_n 2, 1) := by decide +kernel
theorem dX7_tell_67 : decode cX7_tell 67 = .ok (.iconst 1, 1) := by decide +kernel
theorem dX7_tell_68 : decode cX7_tell 68 = .ok (.if_icmp .ne 10, 3) := by decide +kernel
theorem dX7_tell_71 : decode cX7_tell 71 = .ok (.iload_n 3, 1) := by decide +kernel
theorem dX7_tell_72 : decode cX7_tell 72 = .ok (.bipush 100, 2) := by decide +kernel
theorem dX7_tell_74 : decode cX7_tell 74 = .ok (.iadd, 1) := by decide +kernel
theorem dX7_tell_75 : decode cX7_tell 75 = .ok (.goto 9, 3) := by decide +kernel
theorem dX7_tell_78 : decode cX7_tell 78 = .ok (.iconst 2, 1) := by decide +kernel
theorem dX7_tell_79 : decode cX7_tell 79 = .ok (.iload_n 3, 1) := by decide +kernel
theorem dX7_tell_80 : decode cX7_tell 80 = .ok (.imul, 1) := by decide +kernel
theorem dX7_tell_81 : decode cX7_tell 81 = .ok (.bipush 100, 2) := by decide +kernel
theorem dX7_tell_83 : decode cX7_tell 83 = .ok (.iadd, 1) := by decide +kernel
theorem dX7_tell_84 : decode cX7_tell 84 = .ok (.ireturn, 1) := by decide +kernel
theorem dX7_ring_0 : decode cX7_ring 0 = .ok (.aload_n 0, 1) := by decide +kernel
theorem dX7_ring_1 : decode cX7_ring 1 = .ok (.iload_n 1, 1) := by decide +kernel
theorem dX7_ring_2 : decode cX7_ring 2 = .ok (.invokevirtual 158, 3) := by decide +kernel
theorem dX7_ring_5 : decode cX7_ring 5 = .ok (.ifCond .eq 5, 3) := by decide +kernel
theorem dX7_ring_8 : decode cX7_ring 8 = .ok (.iconst (-1), 1) := by decide +kernel
theorem dX7_ring_9 : decode cX7_ring 9 = .ok (.ireturn, 1) := by decide +kernel
theorem dX7_ring_10 : decode cX7_ring 10 = .ok (.aload_n 0, 1) := by decide +kernel
theorem dX7_ring_11 : decode cX7_ring 11 = .ok (.aload_n 0, 1) := by decide +kernel
theorem dX7_ring_12 : decode cX7_ring 12 = .ok (.getfield 13, 3) := by decide +kernel
theorem dX7_ring_15 : decode cX7_ring 15 = .ok (.iload_n 1, 1) := by decide +kernel
theorem dX7_ring_16 : decode cX7_ring 16 = .ok (.iaload, 1) := by decide +kernel
theorem dX7_ring_17 : decode cX7_ring 17 = .ok (.iconst 2, 1) := by decide +kernel
theorem dX7_ring_18 : decode cX7_ring 18 = .ok (.if_icmp .ne 7, 3) := by decide +kernel
theorem dX7_ring_21 : decode cX7_ring 21 = .ok (.iconst 5, 1) := by decide +kernel
theorem dX7_ring_22 : decode cX7_ring 22 = .ok (.goto 4, 3) := by decide +kernel
theorem dX7_ring_25 : decode cX7_ring 25 = .ok (.iconst 4, 1) := by decide +kernel
theorem dX7_ring_26 : decode cX7_ring 26 = .ok (.invokevirtual 242, 3) := by decide +kernel
theorem dX7_ring_29 : decode cX7_ring 29 = .ok (.aload_n 0, 1) := by decide +kernel
theorem dX7_ring_30 : decode cX7_ring 30 = .ok (.getfield 13, 3) := by decide +kernel
theorem dX7_ring_33 : decode cX7_ring 33 = .ok (.iload_n 1, 1) := by decide +kernel
theorem dX7_ring_34 : decode cX7_ring 34 = .ok (.iaload, 1) := by decide +kernel
theorem dX7_ring_35 : decode cX7_ring 35 = .ok (.iconst 2, 1) := by decide +kernel
theorem dX7_ring_36 : decode cX7_ring 36 = .ok (.if_icmp .ne 8, 3) := by decide +kernel
theorem dX7_ring_39 : decode cX7_ring 39 = .ok (.bipush 60, 2) := by decide +kernel
theorem dX7_ring_41 : decode cX7_ring 41 = .ok (.goto 4, 3) := by decide +kernel
theorem dX7_ring_44 : decode cX7_ring 44 = .ok (.iload_n 1, 1) := by decide +kernel
theorem dX7_ring_45 : decode cX7_ring 45 = .ok (.ireturn, 1) := by decide +kernel
theorem dX7_as_0 : decode cX7_as 0 = .ok (.aload_n 0, 1) := by decide +kernel
theorem dX7_as_1 : decode cX7_as 1 = .ok (.iload_n 1, 1) := by decide +kernel
theorem dX7_as_2 : decode cX7_as 2 = .ok (.invokevirtual 158, 3) := by decide +kernel
theorem dX7_as_5 : decode cX7_as 5 = .ok (.ifCond .eq 9, 3) := by decide +kernel
theorem dX7_as_8 : decode cX7_as 8 = .ok (.aload_n 0, 1) := by decide +kernel
theorem dX7_as_9 : decode cX7_as 9 = .ok (.iconst (-1), 1) := by decide +kernel
theorem dX7_as_10 : decode cX7_as 10 = .ok (.invokevirtual 140, 3) := by decide +kernel
theorem dX7_as_13 : decode cX7_as 13 = .ok (.ireturn, 1) := by decide +kernel
theorem dX7_as_14 : decode cX7_as 14 = .ok (.iload_n 2, 1) := by decide +kernel
theorem dX7_as_15 : decode cX7_as 15 = .ok (.i2l, 1) := by decide +kernel
theorem dX7_as_16 : decode cX7_as 16 = .ok (.lconst 0, 1) := by decide +kernel
theorem dX7_as_17 : decode cX7_as 17 = .ok (.ldc2_w 143, 3) := by decide +kernel
theorem dX7_as_20 : decode cX7_as 20 = .ok (.invokestatic 87, 3) := by decide +kernel
theorem dX7_as_23 : decode cX7_as 23 = .ok (.ifCond .ne 10, 3) := by decide +kernel
theorem dX7_as_26 : decode cX7_as 26 = .ok (.aload_n 0, 1) := by decide +kernel
theorem dX7_as_27 : decode cX7_as 27 = .ok (.bipush (-2), 2) := by decide +kernel
theorem dX7_as_29 : decode cX7_as 29 = .ok (.invokevirtual 140, 3) := by decide +kernel
theorem dX7_as_32 : decode cX7_as 32 = .ok (.ireturn, 1) := by decide +kernel
theorem dX7_as_33 : decode cX7_as 33 = .ok (.aload_n 0, 1) := by decide +kernel
theorem dX7_as_34 : decode cX7_as 34 = .ok (.getfield 13, 3) := by decide +kernel
theorem dX7_as_37 : decode cX7_as 37 = .ok (.iload_n 1, 1) := by decide +kernel
theorem dX7_as_38 : decode cX7_as 38 = .ok (.iaload, 1) := by decide +kernel
theorem dX7_as_39 : decode cX7_as 39 = .ok (.iload_n 2, 1) := by decide +kernel
theorem dX7_as_40 : decode cX7_as 40 = .ok (.if_icmp .lt 11, 3) := by decide +kernel
theorem dX7_as_43 : decode cX7_as 43 = .ok (.aload_n 0, 1) := by decide +kernel
theorem dX7_as_44 : decode cX7_as 44 = .ok (.iconst 1, 1) := by decide +kernel
theorem dX7_as_45 : decode cX7_as 45 = .ok (.invokevirtual 140, 3) := by decide +kernel
theorem dX7_as_48 : decode cX7_as 48 = .ok (.goto 8, 3) := by decide +kernel
theorem dX7_as_51 : decode cX7_as 51 = .ok (.aload_n 0, 1) := by decide +kernel
theorem dX7_as_52 : decode cX7_as 52 = .ok (.iconst 2, 1) := by decide +kernel
theorem dX7_as_53 : decode cX7_as 53 = .ok (.invokevirtual 129, 3) := by decide +kernel
theorem dX7_as_56 : decode cX7_as 56 = .ok (.ireturn, 1) := by decide +kernel
theorem dX7_trace_0 : decode cX7_trace 0 = .ok (.aload_n 0, 1) := by decide +kernel
theorem dX7_trace_1 : decode cX7_trace 1 = .ok (.getfield 239, 3) := by decide +kernel
theorem dX7_trace_4 : decode cX7_trace 4 = .ok (.ireturn, 1) := by decide +kernel
theorem dX7_fault_0 : decode cX7_fault 0 = .ok (.aload_n 0, 1) := by decide +kernel
theorem dX7_fault_1 : decode cX7_fault 1 = .ok (.getfield 76, 3) := by decide +kernel
theorem dX7_fault_4 : decode cX7_fault 4 = .ok (.ireturn, 1) := by decide +kernel
theorem dX7_many_0 : decode cX7_many 0 = .ok (.iload_n 1, 1) := by decide +kernel
theorem dX7_many_1 : decode cX7_many 1 = .ok (.tableswitch 51 0 3 #[31, 36, 41, 46], 31) := by decide +kernel
theorem dX7_many_32 : decode cX7_many 32 = .ok (.aload_n 0, 1) := by decide +kernel
theorem dX7_many_33 : decode cX7_many 33 = .ok (.getfield 91, 3) := by decide +kernel
theorem dX7_many_36 : decode cX7_many 36 = .ok (.ireturn, 1) := by decide +kernel
theorem dX7_many_37 : decode cX7_many 37 = .ok (.aload_n 0, 1) := by decide +kernel
theorem dX7_many_38 : decode cX7_many 38 = .ok (.getfield 84, 3) := by decide +kernel
theorem dX7_many_41 : decode cX7_many 41 = .ok (.ireturn, 1) := by decide +kernel
theorem dX7_many_42 : decode cX7_many 42 = .ok (.aload_n 0, 1) := by decide +kernel
theorem dX7_many_43 : decode cX7_many 43 = .ok (.getfield 152, 3) := by decide +kernel
theorem dX7_many_46 : decode cX7_many 46 = .ok (.ireturn, 1) := by decide +kernel
theorem dX7_many_47 : decode cX7_many 47 = .ok (.aload_n 0, 1) := by decide +kernel
theorem dX7_many_48 : decode cX7_many 48 = .ok (.getfield 155, 3) := by decide +kernel
theorem dX7_many_51 : decode cX7_many 51 = .ok (.ireturn, 1) := by decide +kernel
theorem dX7_many_52 : decode cX7_many 52 = .ok (.bipush (-2), 2) := by decide +kernel
theorem dX7_many_54 : decode cX7_many 54 = .ok (.ireturn, 1) := by decide +kernel
