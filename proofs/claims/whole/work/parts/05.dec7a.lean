theorem dX7_init_0 : decode cX7_init 0 = .ok (.aload_n 0, 1) := by decide +kernel
theorem dX7_init_1 : decode cX7_init 1 = .ok (.invokespecial 1, 3) := by decide +kernel
theorem dX7_init_4 : decode cX7_init 4 = .ok (.aload_n 0, 1) := by decide +kernel
theorem dX7_init_5 : decode cX7_init 5 = .ok (.iconst 5, 1) := by decide +kernel
theorem dX7_init_6 : decode cX7_init 6 = .ok (.newarray .int, 2) := by decide +kernel
theorem dX7_init_8 : decode cX7_init 8 = .ok (.putfield 7, 3) := by decide +kernel
theorem dX7_init_11 : decode cX7_init 11 = .ok (.aload_n 0, 1) := by decide +kernel
theorem dX7_init_12 : decode cX7_init 12 = .ok (.iconst 4, 1) := by decide +kernel
theorem dX7_init_13 : decode cX7_init 13 = .ok (.newarray .int, 2) := by decide +kernel
theorem dX7_init_15 : decode cX7_init 15 = .ok (.putfield 13, 3) := by decide +kernel
theorem dX7_init_18 : decode cX7_init 18 = .ok (.aload_n 0, 1) := by decide +kernel
theorem dX7_init_19 : decode cX7_init 19 = .ok (.iconst 4, 1) := by decide +kernel
theorem dX7_init_20 : decode cX7_init 20 = .ok (.newarray .int, 2) := by decide +kernel
theorem dX7_init_22 : decode cX7_init 22 = .ok (.putfield 16, 3) := by decide +kernel
theorem dX7_init_25 : decode cX7_init 25 = .ok (.aload_n 0, 1) := by decide +kernel
theorem dX7_init_26 : decode cX7_init 26 = .ok (.iconst 4, 1) := by decide +kernel
theorem dX7_init_27 : decode cX7_init 27 = .ok (.newarray .int, 2) := by decide +kernel
theorem dX7_init_29 : decode cX7_init 29 = .ok (.putfield 19, 3) := by decide +kernel
theorem dX7_init_32 : decode cX7_init 32 = .ok (.aload_n 0, 1) := by decide +kernel
theorem dX7_init_33 : decode cX7_init 33 = .ok (.iconst 4, 1) := by decide +kernel
theorem dX7_init_34 : decode cX7_init 34 = .ok (.newarray .int, 2) := by decide +kernel
theorem dX7_init_36 : decode cX7_init 36 = .ok (.putfield 22, 3) := by decide +kernel
theorem dX7_init_39 : decode cX7_init 39 = .ok (.aload_n 0, 1) := by decide +kernel
theorem dX7_init_40 : decode cX7_init 40 = .ok (.iconst 4, 1) := by decide +kernel
theorem dX7_init_41 : decode cX7_init 41 = .ok (.newarray .int, 2) := by decide +kernel
theorem dX7_init_43 : decode cX7_init 43 = .ok (.putfield 25, 3) := by decide +kernel
theorem dX7_init_46 : decode cX7_init 46 = .ok (.aload_n 0, 1) := by decide +kernel
theorem dX7_init_47 : decode cX7_init 47 = .ok (.iconst 5, 1) := by decide +kernel
theorem dX7_init_48 : decode cX7_init 48 = .ok (.newarray .int, 2) := by decide +kernel
theorem dX7_init_50 : decode cX7_init 50 = .ok (.putfield 28, 3) := by decide +kernel
theorem dX7_init_53 : decode cX7_init 53 = .ok (.aload_n 0, 1) := by decide +kernel
theorem dX7_init_54 : decode cX7_init 54 = .ok (.iconst 4, 1) := by decide +kernel
theorem dX7_init_55 : decode cX7_init 55 = .ok (.newarray .int, 2) := by decide +kernel
theorem dX7_init_57 : decode cX7_init 57 = .ok (.putfield 31, 3) := by decide +kernel
theorem dX7_init_60 : decode cX7_init 60 = .ok (.aload_n 0, 1) := by decide +kernel
theorem dX7_init_61 : decode cX7_init 61 = .ok (.iconst 4, 1) := by decide +kernel
theorem dX7_init_62 : decode cX7_init 62 = .ok (.newarray .int, 2) := by decide +kernel
theorem dX7_init_64 : decode cX7_init 64 = .ok (.putfield 34, 3) := by decide +kernel
theorem dX7_init_67 : decode cX7_init 67 = .ok (.aload_n 0, 1) := by decide +kernel
theorem dX7_init_68 : decode cX7_init 68 = .ok (.iconst 4, 1) := by decide +kernel
theorem dX7_init_69 : decode cX7_init 69 = .ok (.newarray .int, 2) := by decide +kernel
theorem dX7_init_71 : decode cX7_init 71 = .ok (.putfield 37, 3) := by decide +kernel
theorem dX7_init_74 : decode cX7_init 74 = .ok (.aload_n 0, 1) := by decide +kernel
theorem dX7_init_75 : decode cX7_init 75 = .ok (.iconst 4, 1) := by decide +kernel
theorem dX7_init_76 : decode cX7_init 76 = .ok (.newarray .int, 2) := by decide +kernel
theorem dX7_init_78 : decode cX7_init 78 = .ok (.putfield 40, 3) := by decide +kernel
theorem dX7_init_81 : decode cX7_init 81 = .ok (.aload_n 0, 1) := by decide +kernel
theorem dX7_init_82 : decode cX7_init 82 = .ok (.iconst 4, 1) := by decide +kernel
theorem dX7_init_83 : decode cX7_init 83 = .ok (.newarray .int, 2) := by decide +kernel
theorem dX7_init_85 : decode cX7_init 85 = .ok (.putfield 43, 3) := by decide +kernel
theorem dX7_init_88 : decode cX7_init 88 = .ok (.aload_n 0, 1) := by decide +kernel
theorem dX7_init_89 : decode cX7_init 89 = .ok (.sipush 1024, 3) := by decide +kernel
theorem dX7_init_92 : decode cX7_init 92 = .ok (.newarray .boolean, 2) := by decide +kernel
theorem dX7_init_94 : decode cX7_init 94 = .ok (.putfield 46, 3) := by decide +kernel
theorem dX7_init_97 : decode cX7_init 97 = .ok (.aload_n 0, 1) := by decide +kernel
theorem dX7_init_98 : decode cX7_init 98 = .ok (.sipush 1024, 3) := by decide +kernel
theorem dX7_init_101 : decode cX7_init 101 = .ok (.newarray .boolean, 2) := by decide +kernel
theorem dX7_init_103 : decode cX7_init 103 = .ok (.putfield 50, 3) := by decide +kernel
theorem dX7_init_106 : decode cX7_init 106 = .ok (.aload_n 0, 1) := by decide +kernel
theorem dX7_init_107 : decode cX7_init 107 = .ok (.bipush 8, 2) := by decide +kernel
theorem dX7_init_109 : decode cX7_init 109 = .ok (.newarray .int, 2) := by decide +kernel
theorem dX7_init_111 : decode cX7_init 111 = .ok (.putfield 53, 3) := by decide +kernel
theorem dX7_init_114 : decode cX7_init 114 = .ok (.aload_n 0, 1) := by decide +kernel
theorem dX7_init_115 : decode cX7_init 115 = .ok (.bipush 8, 2) := by decide +kernel
theorem dX7_init_117 : decode cX7_init 117 = .ok (.newarray .int, 2) := by decide +kernel
theorem dX7_init_119 : decode cX7_init 119 = .ok (.putfield 56, 3) := by decide +kernel
theorem dX7_init_122 : decode cX7_init 122 = .ok (.aload_n 0, 1) := by decide +kernel
theorem dX7_init_123 : decode cX7_init 123 = .ok (.bipush 8, 2) := by decide +kernel
theorem dX7_init_125 : decode cX7_init 125 = .ok (.newarray .int, 2) := by decide +kernel
theorem dX7_init_127 : decode cX7_init 127 = .ok (.putfield 59, 3) := by decide +kernel
theorem dX7_init_130 : decode cX7_init 130 = .ok (.aload_n 0, 1) := by decide +kernel
theorem dX7_init_131 : decode cX7_init 131 = .ok (.iconst 4, 1) := by decide +kernel
theorem dX7_init_132 : decode cX7_init 132 = .ok (.newarray .int, 2) := by decide +kernel
theorem dX7_init_134 : decode cX7_init 134 = .ok (.putfield 62, 3) := by decide +kernel
theorem dX7_init_137 : decode cX7_init 137 = .ok (.aload_n 0, 1) := by decide +kernel
theorem dX7_init_138 : decode cX7_init 138 = .ok (.iconst 4, 1) := by decide +kernel
theorem dX7_init_139 : decode cX7_init 139 = .ok (.newarray .int, 2) := by decide +kernel
theorem dX7_init_141 : decode cX7_init 141 = .ok (.putfield 65, 3) := by decide +kernel
theorem dX7_init_144 : decode cX7_init 144 = .ok (.aload_n 0, 1) := by decide +kernel
theorem dX7_init_145 : decode cX7_init 145 = .ok (.sipush 240, 3) := by decide +kernel
theorem dX7_init_148 : decode cX7_init 148 = .ok (.newarray .int, 2) := by decide +kernel
theorem dX7_init_150 : decode cX7_init 150 = .ok (.putfield 68, 3) := by decide +kernel
theorem dX7_init_153 : decode cX7_init 153 = .ok (.aload_n 0, 1) := by decide +kernel
theorem dX7_init_154 : decode cX7_init 154 = .ok (.bipush 60, 2) := by decide +kernel
theorem dX7_init_156 : decode cX7_init 156 = .ok (.newarray .int, 2) := by decide +kernel
theorem dX7_init_158 : decode cX7_init 158 = .ok (.putfield 71, 3) := by decide +kernel
theorem dX7_init_161 : decode cX7_init 161 = .ok (.iconst 0, 1) := by decide +kernel
theorem dX7_init_162 : decode cX7_init 162 = .ok (.istore_n 1, 1) := by decide +kernel
theorem dX7_init_163 : decode cX7_init 163 = .ok (.iload_n 1, 1) := by decide +kernel
theorem dX7_init_164 : decode cX7_init 164 = .ok (.iconst 4, 1) := by decide +kernel
theorem dX7_init_165 : decode cX7_init 165 = .ok (.if_icmp .ge 16, 3) := by decide +kernel
theorem dX7_init_168 : decode cX7_init 168 = .ok (.aload_n 0, 1) := by decide +kernel
theorem dX7_init_169 : decode cX7_init 169 = .ok (.getfield 62, 3) := by decide +kernel
theorem dX7_init_172 : decode cX7_init 172 = .ok (.iload_n 1, 1) := by decide +kernel
theorem dX7_init_173 : decode cX7_init 173 = .ok (.iconst (-1), 1) := by decide +kernel
theorem dX7_init_174 : decode cX7_init 174 = .ok (.iastore, 1) := by decide +kernel
theorem dX7_init_175 : decode cX7_init 175 = .ok (.iinc 1 1, 3) := by decide +kernel
theorem dX7_init_178 : decode cX7_init 178 = .ok (.goto (-15), 3) := by decide +kernel
theorem dX7_init_181 : decode cX7_init 181 = .ok (.return_, 1) := by decide +kernel
theorem dX7_in_0 : decode cX7_in 0 = .ok (.lload_n 0, 1) := by decide +kernel
theorem dX7_in_1 : decode cX7_in 1 = .ok (.lload_n 2, 1) := by decide +kernel
theorem dX7_in_2 : decode cX7_in 2 = .ok (.lcmp, 1) := by decide +kernel
theorem dX7_in_3 : decode cX7_in 3 = .ok (.ifCond .lt 14, 3) := by decide +kernel
theorem dX7_in_6 : decode cX7_in 6 = .ok (.lload_n 0, 1) := by decide +kernel
theorem dX7_in_7 : decode cX7_in 7 = .ok (.lload 4, 2) := by decide +kernel
theorem dX7_in_9 : decode cX7_in 9 = .ok (.lcmp, 1) := by decide +kernel
theorem dX7_in_10 : decode cX7_in 10 = .ok (.ifCond .gt 7, 3) := by decide +kernel
theorem dX7_in_13 : decode cX7_in 13 = .ok (.iconst 1, 1) := by decide +kernel
theorem dX7_in_14 : decode cX7_in 14 = .ok (.goto 4, 3) := by decide +kernel
theorem dX7_in_17 : decode cX7_in 17 = .ok (.iconst 0, 1) := by decide +kernel
theorem dX7_in_18 : decode cX7_in 18 = .ok (.ireturn, 1) := by decide +kernel
theorem dX7_lost_0 : decode cX7_lost 0 = .ok (.ldc2_w 74, 3) := by decide +kernel
theorem dX7_lost_3 : decode cX7_lost 3 = .ok (.lreturn, 1) := by decide +kernel
theorem dX7_isIn_0 : decode cX7_isIn 0 = .ok (.iload_n 0, 1) := by decide +kernel
theorem dX7_isIn_1 : decode cX7_isIn 1 = .ok (.iload_n 1, 1) := by decide +kernel
theorem dX7_isIn_2 : decode cX7_isIn 2 = .ok (.ishr, 1) := by decide +kernel
theorem dX7_isIn_3 : decode cX7_isIn 3 = .ok (.iconst 1, 1) := by decide +kernel
theorem dX7_isIn_4 : decode cX7_isIn 4 = .ok (.iand, 1) := by decide +kernel
theorem dX7_isIn_5 : decode cX7_isIn 5 = .ok (.iconst 1, 1) := by decide +kernel
theorem dX7_isIn_6 : decode cX7_isIn 6 = .ok (.if_icmp .ne 7, 3) := by decide +kernel
theorem dX7_isIn_9 : decode cX7_isIn 9 = .ok (.iconst 1, 1) := by decide +kernel
theorem dX7_isIn_10 : decode cX7_isIn 10 = .ok (.goto 4, 3) := by decide +kernel
theorem dX7_isIn_13 : decode cX7_isIn 13 = .ok (.iconst 0, 1) := by decide +kernel
theorem dX7_isIn_14 : decode cX7_isIn 14 = .ok (.ireturn, 1) := by decide +kernel
theorem dX7_bits_0 : decode cX7_bits 0 = .ok (.iconst 0, 1) := by decide +kernel
theorem dX7_bits_1 : decode cX7_bits 1 = .ok (.istore_n 1, 1) := by decide +kernel
theorem dX7_bits_2 : decode cX7_bits 2 = .ok (.iload_n 0, 1) := by decide +kernel
theorem dX7_bits_3 : decode cX7_bits 3 = .ok (.istore_n 2, 1) := by decide +kernel
theorem dX7_bits_4 : decode cX7_bits 4 = .ok (.iload_n 2, 1) := by decide +kernel
theorem dX7_bits_5 : decode cX7_bits 5 = .ok (.ifCond .le 16, 3) := by decide +kernel
theorem dX7_bits_8 : decode cX7_bits 8 = .ok (.iload_n 1, 1) := by decide +kernel
theorem dX7_bits_9 : decode cX7_bits 9 = .ok (.iload_n 2, 1) := by decide +kernel
theorem dX7_bits_10 : decode cX7_bits 10 = .ok (.iconst 1, 1) := by decide +kernel
theorem dX7_bits_11 : decode cX7_bits 11 = .ok (.iand, 1) := by decide +kernel
theorem dX7_bits_12 : decode cX7_bits 12 = .ok (.iadd, 1) := by decide +kernel
theorem dX7_bits_13 : decode cX7_bits 13 = .ok (.istore_n 1, 1) := by decide +kernel
theorem dX7_bits_14 : decode cX7_bits 14 = .ok (.iload_n 2, 1) := by decide +kernel
theorem dX7_bits_15 : decode cX7_bits 15 = .ok (.iconst 1, 1) := by decide +kernel
theorem dX7_bits_16 : decode cX7_bits 16 = .ok (.ishr, 1) := by decide +kernel
theorem dX7_bits_17 : decode cX7_bits 17 = .ok (.istore_n 2, 1) := by decide +kernel
theorem dX7_bits_18 : decode cX7_bits 18 = .ok (.goto (-14), 3) := by decide +kernel
theorem dX7_bits_21 : decode cX7_bits 21 = .ok (.iload_n 1, 1) := by decide +kernel
theorem dX7_bits_22 : decode cX7_bits 22 = .ok (.ireturn, 1) := by decide +kernel
theorem dX7_share_0 : decode cX7_share 0 = .ok (.lload_n 0, 1) := by decide +kernel
theorem dX7_share_1 : decode cX7_share 1 = .ok (.lstore 5, 2) := by decide +kernel
theorem dX7_share_3 : decode cX7_share 3 = .ok (.lload_n 2, 1) := by decide +kernel
theorem dX7_share_4 : decode cX7_share 4 = .ok (.lstore 7, 2) := by decide +kernel
theorem dX7_share_6 : decode cX7_share 6 = .ok (.lload 7, 2) := by decide +kernel
theorem dX7_share_8 : decode cX7_share 8 = .ok (.lconst 0, 1) := by decide +kernel
theorem dX7_share_9 : decode cX7_share 9 = .ok (.lcmp, 1) := by decide +kernel
theorem dX7_share_10 : decode cX7_share 10 = .ok (.ifCond .eq 21, 3) := by decide +kernel
theorem dX7_share_13 : decode cX7_share 13 = .ok (.lload 5, 2) := by decide +kernel
theorem dX7_share_15 : decode cX7_share 15 = .ok (.lload 7, 2) := by decide +kernel
theorem dX7_share_17 : decode cX7_share 17 = .ok (.lrem, 1) := by decide +kernel
theorem dX7_share_18 : decode cX7_share 18 = .ok (.lstore 9, 2) := by decide +kernel
theorem dX7_share_20 : decode cX7_share 20 = .ok (.lload 7, 2) := by decide +kernel
theorem dX7_share_22 : decode cX7_share 22 = .ok (.lstore 5, 2) := by decide +kernel
theorem dX7_share_24 : decode cX7_share 24 = .ok (.lload 9, 2) := by decide +kernel
theorem dX7_share_26 : decode cX7_share 26 = .ok (.lstore 7, 2) := by decide +kernel
theorem dX7_share_28 : decode cX7_share 28 = .ok (.goto (-22), 3) := by decide +kernel
theorem dX7_share_31 : decode cX7_share 31 = .ok (.iload 4, 2) := by decide +kernel
theorem dX7_share_33 : decode cX7_share 33 = .ok (.ifCond .ne 7, 3) := by decide +kernel
theorem dX7_share_36 : decode cX7_share 36 = .ok (.lload_n 0, 1) := by decide +kernel
theorem dX7_share_37 : decode cX7_share 37 = .ok (.goto 4, 3) := by decide +kernel
theorem dX7_share_40 : decode cX7_share 40 = .ok (.lload_n 2, 1) := by decide +kernel
theorem dX7_share_41 : decode cX7_share 41 = .ok (.lload 5, 2) := by decide +kernel
theorem dX7_share_43 : decode cX7_share 43 = .ok (.ldiv, 1) := by decide +kernel
theorem dX7_share_44 : decode cX7_share 44 = .ok (.lreturn, 1) := by decide +kernel
theorem dX7_refused_0 : decode cX7_refused 0 = .ok (.aload_n 0, 1) := by decide +kernel
theorem dX7_refused_1 : decode cX7_refused 1 = .ok (.iconst 0, 1) := by decide +kernel
theorem dX7_refused_2 : decode cX7_refused 2 = .ok (.putfield 76, 3) := by decide +kernel
theorem dX7_refused_5 : decode cX7_refused 5 = .ok (.iload_n 1, 1) := by decide +kernel
theorem dX7_refused_6 : decode cX7_refused 6 = .ok (.ireturn, 1) := by decide +kernel
theorem dX7_failed_0 : decode cX7_failed 0 = .ok (.aload_n 0, 1) := by decide +kernel
theorem dX7_failed_1 : decode cX7_failed 1 = .ok (.iload_n 1, 1) := by decide +kernel
theorem dX7_failed_2 : decode cX7_failed 2 = .ok (.putfield 76, 3) := by decide +kernel
theorem dX7_failed_5 : decode cX7_failed 5 = .ok (.bipush (-10), 2) := by decide +kernel
theorem dX7_failed_7 : decode cX7_failed 7 = .ok (.iload_n 1, 1) := by decide +kernel
theorem dX7_failed_8 : decode cX7_failed 8 = .ok (.isub, 1) := by decide +kernel
theorem dX7_failed_9 : decode cX7_failed 9 = .ok (.ireturn, 1) := by decide +kernel
theorem dX7_failedLong_0 : decode cX7_failedLong 0 = .ok (.aload_n 0, 1) := by decide +kernel
theorem dX7_failedLong_1 : decode cX7_failedLong 1 = .ok (.iload_n 1, 1) := by decide +kernel
theorem dX7_failedLong_2 : decode cX7_failedLong 2 = .ok (.putfield 76, 3) := by decide +kernel
theorem dX7_failedLong_5 : decode cX7_failedLong 5 = .ok (.invokestatic 80, 3) := by decide +kernel
theorem dX7_failedLong_8 : decode cX7_failedLong 8 = .ok (.lreturn, 1) := by decide +kernel
theorem dX7_noSection_0 : decode cX7_noSection 0 = .ok (.iload_n 1, 1) := by decide +kernel
theorem dX7_noSection_1 : decode cX7_noSection 1 = .ok (.i2l, 1) := by decide +kernel
theorem dX7_noSection_2 : decode cX7_noSection 2 = .ok (.lconst 0, 1) := by decide +kernel
theorem dX7_noSection_3 : decode cX7_noSection 3 = .ok (.aload_n 0, 1) := by decide +kernel
theorem dX7_noSection_4 : decode cX7_noSection 4 = .ok (.getfield 84, 3) := by decide +kernel
theorem dX7_noSection_7 : decode cX7_noSection 7 = .ok (.i2l, 1) := by decide +kernel
theorem dX7_noSection_8 : decode cX7_noSection 8 = .ok (.lconst 1, 1) := by decide +kernel
theorem dX7_noSection_9 : decode cX7_noSection 9 = .ok (.lsub, 1) := by decide +kernel
theorem dX7_noSection_10 : decode cX7_noSection 10 = .ok (.invokestatic 87, 3) := by decide +kernel
theorem dX7_noSection_13 : decode cX7_noSection 13 = .ok (.ifCond .ne 7, 3) := by decide +kernel
theorem dX7_noSection_16 : decode cX7_noSection 16 = .ok (.iconst 1, 1) := by decide +kernel
theorem dX7_noSection_17 : decode cX7_noSection 17 = .ok (.goto 4, 3) := by decide +kernel
theorem dX7_noSection_20 : decode cX7_noSection 20 = .ok (.iconst 0, 1) := by decide +kernel
theorem dX7_noSection_21 : decode cX7_noSection 21 = .ok (.ireturn, 1) := by decide +kernel
theorem dX7_noRider_0 : decode cX7_noRider 0 = .ok (.iload_n 1, 1) := by decide +kernel
theorem dX7_noRider_1 : decode cX7_noRider 1 = .ok (.i2l, 1) := by decide +kernel
theorem dX7_noRider_2 : decode cX7_noRider 2 = .ok (.lconst 0, 1) := by decide +kernel
theorem dX7_noRider_3 : decode cX7_noRider 3 = .ok (.aload_n 0, 1) := by decide +kernel
theorem dX7_noRider_4 : decode cX7_noRider 4 = .ok (.getfield 91, 3) := by decide +kernel
theorem dX7_noRider_7 : decode cX7_noRider 7 = .ok (.i2l, 1) := by decide +kernel
theorem dX7_noRider_8 : decode cX7_noRider 8 = .ok (.lconst 1, 1) := by decide +kernel
theorem dX7_noRider_9 : decode cX7_noRider 9 = .ok (.lsub, 1) := by decide +kernel
theorem dX7_noRider_10 : decode cX7_noRider 10 = .ok (.invokestatic 87, 3) := by decide +kernel
theorem dX7_noRider_13 : decode cX7_noRider 13 = .ok (.ifCond .ne 7, 3) := by decide +kernel
theorem dX7_noRider_16 : decode cX7_noRider 16 = .ok (.iconst 1, 1) := by decide +kernel
theorem dX7_noRider_17 : decode cX7_noRider 17 = .ok (.goto 4, 3) := by decide +kernel
theorem dX7_noRider_20 : decode cX7_noRider 20 = .ok (.iconst 0, 1) := by decide +kernel
theorem dX7_noRider_21 : decode cX7_noRider 21 = .ok (.ireturn, 1) := by decide +kernel
theorem dX7_allOf_0 : decode cX7_allOf 0 = .ok (.iconst 1, 1) := by decide +kernel
theorem dX7_allOf_1 : decode cX7_allOf 1 = .ok (.aload_n 0, 1) := by decide +kernel
theorem dX7_allOf_2 : decode cX7_allOf 2 = .ok (.getfield 19, 3) := by decide +kernel
theorem dX7_allOf_5 : decode cX7_allOf 5 = .ok (.iload_n 1, 1) := by decide +kernel
theorem dX7_allOf_6 : decode cX7_allOf 6 = .ok (.iaload, 1) := by decide +kernel
theorem dX7_allOf_7 : decode cX7_allOf 7 = .ok (.ishl, 1) := by decide +kernel
theorem dX7_allOf_8 : decode cX7_allOf 8 = .ok (.iconst 1, 1) := by decide +kernel
theorem dX7_allOf_9 : decode cX7_allOf 9 = .ok (.aload_n 0, 1) := by decide +kernel
theorem dX7_allOf_10 : decode cX7_allOf 10 = .ok (.getfield 16, 3) := by decide +kernel
theorem dX7_allOf_13 : decode cX7_allOf 13 = .ok (.iload_n 1, 1) := by decide +kernel
theorem dX7_allOf_14 : decode cX7_allOf 14 = .ok (.iaload, 1) := by decide +kernel
theorem dX7_allOf_15 : decode cX7_allOf 15 = .ok (.ishl, 1) := by decide +kernel
theorem dX7_allOf_16 : decode cX7_allOf 16 = .ok (.isub, 1) := by decide +kernel
theorem dX7_allOf_17 : decode cX7_allOf 17 = .ok (.ireturn, 1) := by decide +kernel
theorem dX7_noSetOf_0 : decode cX7_noSetOf 0 = .ok (.iload_n 2, 1) := by decide +kernel
theorem dX7_noSetOf_1 : decode cX7_noSetOf 1 = .ok (.ifCond .lt 15, 3) := by decide +kernel
theorem dX7_noSetOf_4 : decode cX7_noSetOf 4 = .ok (.iload_n 2, 1) := by decide +kernel
theorem dX7_noSetOf_5 : decode cX7_noSetOf 5 = .ok (.aload_n 0, 1) := by decide +kernel
theorem dX7_noSetOf_6 : decode cX7_noSetOf 6 = .ok (.iload_n 1, 1) := by decide +kernel
theorem dX7_noSetOf_7 : decode cX7_noSetOf 7 = .ok (.invokevirtual 94, 3) := by decide +kernel
theorem dX7_noSetOf_10 : decode cX7_noSetOf 10 = .ok (.iconst (-1), 1) := by decide +kernel
theorem dX7_noSetOf_11 : decode cX7_noSetOf 11 = .ok (.ixor, 1) := by decide +kernel
theorem dX7_noSetOf_12 : decode cX7_noSetOf 12 = .ok (.iand, 1) := by decide +kernel
theorem dX7_noSetOf_13 : decode cX7_noSetOf 13 = .ok (.ifCond .eq 7, 3) := by decide +kernel
theorem dX7_noSetOf_16 : decode cX7_noSetOf 16 = .ok (.iconst 1, 1) := by decide +kernel
theorem dX7_noSetOf_17 : decode cX7_noSetOf 17 = .ok (.goto 4, 3) := by decide +kernel
theorem dX7_noSetOf_20 : decode cX7_noSetOf 20 = .ok (.iconst 0, 1) := by decide +kernel
theorem dX7_noSetOf_21 : decode cX7_noSetOf 21 = .ok (.ireturn, 1) := by decide +kernel
theorem dX7_codeAt_0 : decode cX7_codeAt 0 = .ok (.aload_n 0, 1) := by decide +kernel
theorem dX7_codeAt_1 : decode cX7_codeAt 1 = .ok (.getfield 98, 3) := by decide +kernel
theorem dX7_codeAt_4 : decode cX7_codeAt 4 = .ok (.iload_n 2, 1) := by decide +kernel
theorem dX7_codeAt_5 : decode cX7_codeAt 5 = .ok (.if_icmp .ge 17, 3) := by decide +kernel
theorem dX7_codeAt_8 : decode cX7_codeAt 8 = .ok (.aload_n 0, 1) := by decide +kernel
theorem dX7_codeAt_9 : decode cX7_codeAt 9 = .ok (.getfield 68, 3) := by decide +kernel
theorem dX7_codeAt_12 : decode cX7_codeAt 12 = .ok (.iload_n 1, 1) := by decide +kernel
theorem dX7_codeAt_13 : decode cX7_codeAt 13 = .ok (.aload_n 0, 1) := by decide +kernel
theorem dX7_codeAt_14 : decode cX7_codeAt 14 = .ok (.getfield 98, 3) := by decide +kernel
theorem dX7_codeAt_17 : decode cX7_codeAt 17 = .ok (.iadd, 1) := by decide +kernel
theorem dX7_codeAt_18 : decode cX7_codeAt 18 = .ok (.iaload, 1) := by decide +kernel
theorem dX7_codeAt_19 : decode cX7_codeAt 19 = .ok (.goto 5, 3) := by decide +kernel
theorem dX7_codeAt_22 : decode cX7_codeAt 22 = .ok (.bipush (-9), 2) := by decide +kernel
theorem dX7_codeAt_24 : decode cX7_codeAt 24 = .ok (.ireturn, 1) := by decide +kernel
theorem dX7_figure_0 : decode cX7_figure 0 = .ok (.aload_n 0, 1) := by decide +kernel
theorem dX7_figure_1 : decode cX7_figure 1 = .ok (.iload_n 1, 1) := by decide +kernel
theorem dX7_figure_2 : decode cX7_figure 2 = .ok (.iload_n 2, 1) := by decide +kernel
theorem dX7_figure_3 : decode cX7_figure 3 = .ok (.invokevirtual 101, 3) := by decide +kernel
theorem dX7_figure_6 : decode cX7_figure 6 = .ok (.bipush 48, 2) := by decide +kernel
theorem dX7_figure_8 : decode cX7_figure 8 = .ok (.isub, 1) := by decide +kernel
theorem dX7_figure_9 : decode cX7_figure 9 = .ok (.istore 5, 2) := by decide +kernel
theorem dX7_figure_11 : decode cX7_figure 11 = .ok (.iload 5, 2) := by decide +kernel
theorem dX7_figure_13 : decode cX7_figure 13 = .ok (.i2l, 1) := by decide +kernel
theorem dX7_figure_14 : decode cX7_figure 14 = .ok (.iload_n 3, 1) := by decide +kernel
theorem dX7_figure_15 : decode cX7_figure 15 = .ok (.i2l, 1) := by decide +kernel
theorem dX7_figure_16 : decode cX7_figure 16 = .ok (.iload 4, 2) := by decide +kernel
theorem dX7_figure_18 : decode cX7_figure 18 = .ok (.i2l, 1) := by decide +kernel
theorem dX7_figure_19 : decode cX7_figure 19 = .ok (.invokestatic 87, 3) := by decide +kernel
theorem dX7_figure_22 : decode cX7_figure 22 = .ok (.istore 6, 2) := by decide +kernel
theorem dX7_figure_24 : decode cX7_figure 24 = .ok (.aload_n 0, 1) := by decide +kernel
theorem dX7_figure_25 : decode cX7_figure 25 = .ok (.dup, 1) := by decide +kernel
theorem dX7_figure_26 : decode cX7_figure 26 = .ok (.getfield 98, 3) := by decide +kernel
theorem dX7_figure_29 : decode cX7_figure 29 = .ok (.iload 6, 2) := by decide +kernel
theorem dX7_figure_31 : decode cX7_figure 31 = .ok (.ifCond .eq 7, 3) := by decide +kernel
theorem dX7_figure_34 : decode cX7_figure 34 = .ok (.iconst 1, 1) := by decide +kernel
theorem dX7_figure_35 : decode cX7_figure 35 = .ok (.goto 4, 3) := by decide +kernel
theorem dX7_figure_38 : decode cX7_figure 38 = .ok (.iconst 0, 1) := by decide +kernel
theorem dX7_figure_39 : decode cX7_figure 39 = .ok (.iadd, 1) := by decide +kernel
theorem dX7_figure_40 : decode cX7_figure 40 = .ok (.putfield 98, 3) := by decide +kernel
theorem dX7_figure_43 : decode cX7_figure 43 = .ok (.iload 6, 2) := by decide +kernel
theorem dX7_figure_45 : decode cX7_figure 45 = .ok (.ifCond .eq 8, 3) := by decide +kernel
theorem dX7_figure_48 : decode cX7_figure 48 = .ok (.iload 5, 2) := by decide +kernel
theorem dX7_figure_50 : decode cX7_figure 50 = .ok (.goto 5, 3) := by decide +kernel
theorem dX7_figure_53 : decode cX7_figure 53 = .ok (.bipush (-9), 2) := by decide +kernel
theorem dX7_figure_55 : decode cX7_figure 55 = .ok (.ireturn, 1) := by decide +kernel
theorem dX7_twoFigures_0 : decode cX7_twoFigures 0 = .ok (.aload_n 0, 1) := by decide +kernel
theorem dX7_twoFigures_1 : decode cX7_twoFigures 1 = .ok (.iload_n 1, 1) := by decide +kernel
theorem dX7_twoFigures_2 : decode cX7_twoFigures 2 = .ok (.iload_n 2, 1) := by decide +kernel
theorem dX7_twoFigures_3 : decode cX7_twoFigures 3 = .ok (.iconst 0, 1) := by decide +kernel
theorem dX7_twoFigures_4 : decode cX7_twoFigures 4 = .ok (.iload_n 3, 1) := by decide +kernel
theorem dX7_twoFigures_5 : decode cX7_twoFigures 5 = .ok (.invokevirtual 105, 3) := by decide +kernel
theorem dX7_twoFigures_8 : decode cX7_twoFigures 8 = .ok (.istore 4, 2) := by decide +kernel
theorem dX7_twoFigures_10 : decode cX7_twoFigures 10 = .ok (.iload 4, 2) := by decide +kernel
theorem dX7_twoFigures_12 : decode cX7_twoFigures 12 = .ok (.ifCond .ge 8, 3) := by decide +kernel
theorem dX7_twoFigures_15 : decode cX7_twoFigures 15 = .ok (.bipush (-9), 2) := by decide +kernel
theorem dX7_twoFigures_17 : decode cX7_twoFigures 17 = .ok (.goto 12, 3) := by decide +kernel
theorem dX7_twoFigures_20 : decode cX7_twoFigures 20 = .ok (.aload_n 0, 1) := by decide +kernel
theorem dX7_twoFigures_21 : decode cX7_twoFigures 21 = .ok (.iload_n 1, 1) := by decide +kernel
theorem dX7_twoFigures_22 : decode cX7_twoFigures 22 = .ok (.iload_n 2, 1) := by decide +kernel
theorem dX7_twoFigures_23 : decode cX7_twoFigures 23 = .ok (.iconst 0, 1) := by decide +kernel
theorem dX7_twoFigures_24 : decode cX7_twoFigures 24 = .ok (.bipush 9, 2) := by decide +kernel
theorem dX7_twoFigures_26 : decode cX7_twoFigures 26 = .ok (.invokevirtual 105, 3) := by decide +kernel
theorem dX7_twoFigures_29 : decode cX7_twoFigures 29 = .ok (.istore 5, 2) := by decide +kernel
theorem dX7_twoFigures_31 : decode cX7_twoFigures 31 = .ok (.iload 5, 2) := by decide +kernel
theorem dX7_twoFigures_33 : decode cX7_twoFigures 33 = .ok (.ifCond .ge 8, 3) := by decide +kernel
theorem dX7_twoFigures_36 : decode cX7_twoFigures 36 = .ok (.bipush (-9), 2) := by decide +kernel
theorem dX7_twoFigures_38 : decode cX7_twoFigures 38 = .ok (.goto 11, 3) := by decide +kernel
theorem dX7_twoFigures_41 : decode cX7_twoFigures 41 = .ok (.bipush 10, 2) := by decide +kernel
theorem dX7_twoFigures_43 : decode cX7_twoFigures 43 = .ok (.iload 4, 2) := by decide +kernel
theorem dX7_twoFigures_45 : decode cX7_twoFigures 45 = .ok (.imul, 1) := by decide +kernel
theorem dX7_twoFigures_46 : decode cX7_twoFigures 46 = .ok (.iload 5, 2) := by decide +kernel
theorem dX7_twoFigures_48 : decode cX7_twoFigures 48 = .ok (.iadd, 1) := by decide +kernel
theorem dX7_twoFigures_49 : decode cX7_twoFigures 49 = .ok (.ireturn, 1) := by decide +kernel
theorem dX7_readsSections_0 : decode cX7_readsSections 0 = .ok (.iconst 1, 1) := by decide +kernel
theorem dX7_readsSections_1 : decode cX7_readsSections 1 = .ok (.istore_n 3, 1) := by decide +kernel
theorem dX7_readsSections_2 : decode cX7_readsSections 2 = .ok (.aload_n 0, 1) := by decide +kernel
theorem dX7_readsSections_3 : decode cX7_readsSections 3 = .ok (.getfield 109, 3) := by decide +kernel
theorem dX7_readsSections_6 : decode cX7_readsSections 6 = .ok (.iconst 5, 1) := by decide +kernel
theorem dX7_readsSections_7 : decode cX7_readsSections 7 = .ok (.if_icmp .ge 56, 3) := by decide +kernel
theorem dX7_readsSections_10 : decode cX7_readsSections 10 = .ok (.iload_n 3, 1) := by decide +kernel
theorem dX7_readsSections_11 : decode cX7_readsSections 11 = .ok (.ifCond .eq 52, 3) := by decide +kernel
theorem dX7_readsSections_14 : decode cX7_readsSections 14 = .ok (.aload_n 0, 1) := by decide +kernel
theorem dX7_readsSections_15 : decode cX7_readsSections 15 = .ok (.iload_n 1, 1) := by decide +kernel
theorem dX7_readsSections_16 : decode cX7_readsSections 16 = .ok (.iload_n 2, 1) := by decide +kernel
theorem dX7_readsSections_17 : decode cX7_readsSections 17 = .ok (.iconst 0, 1) := by decide +kernel
theorem dX7_readsSections_18 : decode cX7_readsSections 18 = .ok (.iconst 3, 1) := by decide +kernel
theorem dX7_readsSections_19 : decode cX7_readsSections 19 = .ok (.invokevirtual 105, 3) := by decide +kernel
theorem dX7_readsSections_22 : decode cX7_readsSections 22 = .ok (.istore 4, 2) := by decide +kernel
theorem dX7_readsSections_24 : decode cX7_readsSections 24 = .ok (.iload 4, 2) := by decide +kernel
theorem dX7_readsSections_26 : decode cX7_readsSections 26 = .ok (.ifCond .lt 7, 3) := by decide +kernel
theorem dX7_readsSections_29 : decode cX7_readsSections 29 = .ok (.iconst 1, 1) := by decide +kernel
theorem dX7_readsSections_30 : decode cX7_readsSections 30 = .ok (.goto 4, 3) := by decide +kernel
theorem dX7_readsSections_33 : decode cX7_readsSections 33 = .ok (.iconst 0, 1) := by decide +kernel
theorem dX7_readsSections_34 : decode cX7_readsSections 34 = .ok (.istore_n 3, 1) := by decide +kernel
theorem dX7_readsSections_35 : decode cX7_readsSections 35 = .ok (.iload_n 3, 1) := by decide +kernel
theorem dX7_readsSections_36 : decode cX7_readsSections 36 = .ok (.ifCond .eq 24, 3) := by decide +kernel
theorem dX7_readsSections_39 : decode cX7_readsSections 39 = .ok (.aload_n 0, 1) := by decide +kernel
theorem dX7_readsSections_40 : decode cX7_readsSections 40 = .ok (.getfield 28, 3) := by decide +kernel
theorem dX7_readsSections_43 : decode cX7_readsSections 43 = .ok (.aload_n 0, 1) := by decide +kernel
theorem dX7_readsSections_44 : decode cX7_readsSections 44 = .ok (.getfield 109, 3) := by decide +kernel
theorem dX7_readsSections_47 : decode cX7_readsSections 47 = .ok (.iload 4, 2) := by decide +kernel
theorem dX7_readsSections_49 : decode cX7_readsSections 49 = .ok (.iastore, 1) := by decide +kernel
theorem dX7_readsSections_50 : decode cX7_readsSections 50 = .ok (.aload_n 0, 1) := by decide +kernel
theorem dX7_readsSections_51 : decode cX7_readsSections 51 = .ok (.dup, 1) := by decide +kernel
theorem dX7_readsSections_52 : decode cX7_readsSections 52 = .ok (.getfield 109, 3) := by decide +kernel
theorem dX7_readsSections_55 : decode cX7_readsSections 55 = .ok (.iconst 1, 1) := by decide +kernel
theorem dX7_readsSections_56 : decode cX7_readsSections 56 = .ok (.iadd, 1) := by decide +kernel
theorem dX7_readsSections_57 : decode cX7_readsSections 57 = .ok (.putfield 109, 3) := by decide +kernel
theorem dX7_readsSections_60 : decode cX7_readsSections 60 = .ok (.goto (-58), 3) := by decide +kernel
theorem dX7_readsSections_63 : decode cX7_readsSections 63 = .ok (.aload_n 0, 1) := by decide +kernel
theorem dX7_readsSections_64 : decode cX7_readsSections 64 = .ok (.getfield 109, 3) := by decide +kernel
theorem dX7_readsSections_67 : decode cX7_readsSections 67 = .ok (.ifCond .le 7, 3) := by decide +kernel
theorem dX7_readsSections_70 : decode cX7_readsSections 70 = .ok (.iconst 1, 1) := by decide +kernel
theorem dX7_readsSections_71 : decode cX7_readsSections 71 = .ok (.goto 4, 3) := by decide +kernel
theorem dX7_readsSections_74 : decode cX7_readsSections 74 = .ok (.iconst 0, 1) := by decide +kernel
theorem dX7_readsSections_75 : decode cX7_readsSections 75 = .ok (.ireturn, 1) := by decide +kernel
theorem dX7_readsRider_0 : decode cX7_readsRider 0 = .ok (.aload_n 0, 1) := by decide +kernel
theorem dX7_readsRider_1 : decode cX7_readsRider 1 = .ok (.getfield 112, 3) := by decide +kernel
theorem dX7_readsRider_4 : decode cX7_readsRider 4 = .ok (.iconst 4, 1) := by decide +kernel
theorem dX7_readsRider_5 : decode cX7_readsRider 5 = .ok (.if_icmp .eq 14, 3) := by decide +kernel
theorem dX7_readsRider_8 : decode cX7_readsRider 8 = .ok (.aload_n 0, 1) := by decide +kernel
theorem dX7_readsRider_9 : decode cX7_readsRider 9 = .ok (.iload_n 1, 1) := by decide +kernel
theorem dX7_readsRider_10 : decode cX7_readsRider 10 = .ok (.iload_n 2, 1) := by decide +kernel
theorem dX7_readsRider_11 : decode cX7_readsRider 11 = .ok (.invokevirtual 101, 3) := by decide +kernel
theorem dX7_readsRider_14 : decode cX7_readsRider 14 = .ok (.bipush 59, 2) := by decide +kernel
theorem dX7_readsRider_16 : decode cX7_readsRider 16 = .ok (.if_icmp .eq 5, 3) := by decide +kernel
theorem dX7_readsRider_19 : decode cX7_readsRider 19 = .ok (.iconst 0, 1) := by decide +kernel
theorem dX7_readsRider_20 : decode cX7_readsRider 20 = .ok (.ireturn, 1) := by decide +kernel
theorem dX7_readsRider_21 : decode cX7_readsRider 21 = .ok (.aload_n 0, 1) := by decide +kernel
theorem dX7_readsRider_22 : decode cX7_readsRider 22 = .ok (.dup, 1) := by decide +kernel
theorem dX7_readsRider_23 : decode cX7_readsRider 23 = .ok (.getfield 98, 3) := by decide +kernel
theorem dX7_readsRider_26 : decode cX7_readsRider 26 = .ok (.iconst 1, 1) := by decide +kernel
theorem dX7_readsRider_27 : decode cX7_readsRider 27 = .ok (.iadd, 1) := by decide +kernel
theorem dX7_readsRider_28 : decode cX7_readsRider 28 = .ok (.putfield 98, 3) := by decide +kernel
theorem dX7_readsRider_31 : decode cX7_readsRider 31 = .ok (.aload_n 0, 1) := by decide +kernel
theorem dX7_readsRider_32 : decode cX7_readsRider 32 = .ok (.iload_n 1, 1) := by decide +kernel
theorem dX7_readsRider_33 : decode cX7_readsRider 33 = .ok (.iload_n 2, 1) := by decide +kernel
theorem dX7_readsRider_34 : decode cX7_readsRider 34 = .ok (.invokevirtual 101, 3) := by decide +kernel
theorem dX7_readsRider_37 : decode cX7_readsRider 37 = .ok (.istore_n 3, 1) := by decide +kernel
theorem dX7_readsRider_38 : decode cX7_readsRider 38 = .ok (.iload_n 3, 1) := by decide +kernel
theorem dX7_readsRider_39 : decode cX7_readsRider 39 = .ok (.bipush 114, 2) := by decide +kernel
theorem dX7_readsRider_41 : decode cX7_readsRider 41 = .ok (.if_icmp .eq 17, 3) := by decide +kernel
theorem dX7_readsRider_44 : decode cX7_readsRider 44 = .ok (.iload_n 3, 1) := by decide +kernel
theorem dX7_readsRider_45 : decode cX7_readsRider 45 = .ok (.bipush 108, 2) := by decide +kernel
theorem dX7_readsRider_47 : decode cX7_readsRider 47 = .ok (.if_icmp .eq 11, 3) := by decide +kernel
theorem dX7_readsRider_50 : decode cX7_readsRider 50 = .ok (.iload_n 3, 1) := by decide +kernel
theorem dX7_readsRider_51 : decode cX7_readsRider 51 = .ok (.bipush 101, 2) := by decide +kernel
theorem dX7_readsRider_53 : decode cX7_readsRider 53 = .ok (.if_icmp .eq 5, 3) := by decide +kernel
theorem dX7_readsRider_56 : decode cX7_readsRider 56 = .ok (.iconst 0, 1) := by decide +kernel
theorem dX7_readsRider_57 : decode cX7_readsRider 57 = .ok (.ireturn, 1) := by decide +kernel
theorem dX7_readsRider_58 : decode cX7_readsRider 58 = .ok (.aload_n 0, 1) := by decide +kernel
theorem dX7_readsRider_59 : decode cX7_readsRider 59 = .ok (.dup, 1) := by decide +kernel
theorem dX7_readsRider_60 : decode cX7_readsRider 60 = .ok (.getfield 98, 3) := by decide +kernel
theorem dX7_readsRider_63 : decode cX7_readsRider 63 = .ok (.iconst 1, 1) := by decide +kernel
theorem dX7_readsRider_64 : decode cX7_readsRider 64 = .ok (.iadd, 1) := by decide +kernel
theorem dX7_readsRider_65 : decode cX7_readsRider 65 = .ok (.putfield 98, 3) := by decide +kernel
theorem dX7_readsRider_68 : decode cX7_readsRider 68 = .ok (.aload_n 0, 1) := by decide +kernel
theorem dX7_readsRider_69 : decode cX7_readsRider 69 = .ok (.iload_n 1, 1) := by decide +kernel
theorem dX7_readsRider_70 : decode cX7_readsRider 70 = .ok (.iload_n 2, 1) := by decide +kernel
theorem dX7_readsRider_71 : decode cX7_readsRider 71 = .ok (.iconst 0, 1) := by decide +kernel
theorem dX7_readsRider_72 : decode cX7_readsRider 72 = .ok (.aload_n 0, 1) := by decide +kernel
theorem dX7_readsRider_73 : decode cX7_readsRider 73 = .ok (.getfield 109, 3) := by decide +kernel
theorem dX7_readsRider_76 : decode cX7_readsRider 76 = .ok (.iconst 1, 1) := by decide +kernel
theorem dX7_readsRider_77 : decode cX7_readsRider 77 = .ok (.isub, 1) := by decide +kernel
theorem dX7_readsRider_78 : decode cX7_readsRider 78 = .ok (.invokevirtual 105, 3) := by decide +kernel
theorem dX7_readsRider_81 : decode cX7_readsRider 81 = .ok (.istore 4, 2) := by decide +kernel
theorem dX7_readsRider_83 : decode cX7_readsRider 83 = .ok (.iload 4, 2) := by decide +kernel
theorem dX7_readsRider_85 : decode cX7_readsRider 85 = .ok (.ifCond .ge 8, 3) := by decide +kernel
theorem dX7_readsRider_88 : decode cX7_readsRider 88 = .ok (.bipush (-9), 2) := by decide +kernel
theorem dX7_readsRider_90 : decode cX7_readsRider 90 = .ok (.goto 17, 3) := by decide +kernel
theorem dX7_readsRider_93 : decode cX7_readsRider 93 = .ok (.aload_n 0, 1) := by decide +kernel
theorem dX7_readsRider_94 : decode cX7_readsRider 94 = .ok (.iload_n 1, 1) := by decide +kernel
theorem dX7_readsRider_95 : decode cX7_readsRider 95 = .ok (.iload_n 2, 1) := by decide +kernel
theorem dX7_readsRider_96 : decode cX7_readsRider 96 = .ok (.iload 4, 2) := by decide +kernel
theorem dX7_readsRider_98 : decode cX7_readsRider 98 = .ok (.iconst 1, 1) := by decide +kernel
theorem dX7_readsRider_99 : decode cX7_readsRider 99 = .ok (.iadd, 1) := by decide +kernel
theorem dX7_readsRider_100 : decode cX7_readsRider 100 = .ok (.aload_n 0, 1) := by decide +kernel
theorem dX7_readsRider_101 : decode cX7_readsRider 101 = .ok (.getfield 109, 3) := by decide +kernel
theorem dX7_readsRider_104 : decode cX7_readsRider 104 = .ok (.invokevirtual 105, 3) := by decide +kernel
theorem dX7_readsRider_107 : decode cX7_readsRider 107 = .ok (.istore 5, 2) := by decide +kernel
theorem dX7_readsRider_109 : decode cX7_readsRider 109 = .ok (.iload 5, 2) := by decide +kernel
theorem dX7_readsRider_111 : decode cX7_readsRider 111 = .ok (.ifCond .ge 8, 3) := by decide +kernel
theorem dX7_readsRider_114 : decode cX7_readsRider 114 = .ok (.bipush (-9), 2) := by decide +kernel
theorem dX7_readsRider_116 : decode cX7_readsRider 116 = .ok (.goto 11, 3) := by decide +kernel
theorem dX7_readsRider_119 : decode cX7_readsRider 119 = .ok (.aload_n 0, 1) := by decide +kernel
theorem dX7_readsRider_120 : decode cX7_readsRider 120 = .ok (.iload_n 1, 1) := by decide +kernel
theorem dX7_readsRider_121 : decode cX7_readsRider 121 = .ok (.iload_n 2, 1) := by decide +kernel
theorem dX7_readsRider_122 : decode cX7_readsRider 122 = .ok (.bipush 7, 2) := by decide +kernel
theorem dX7_readsRider_124 : decode cX7_readsRider 124 = .ok (.invokevirtual 115, 3) := by decide +kernel
theorem dX7_readsRider_127 : decode cX7_readsRider 127 = .ok (.istore 6, 2) := by decide +kernel
theorem dX7_readsRider_129 : decode cX7_readsRider 129 = .ok (.iload 6, 2) := by decide +kernel
theorem dX7_readsRider_131 : decode cX7_readsRider 131 = .ok (.ifCond .ge 8, 3) := by decide +kernel
theorem dX7_readsRider_134 : decode cX7_readsRider 134 = .ok (.bipush (-9), 2) := by decide +kernel
theorem dX7_readsRider_136 : decode cX7_readsRider 136 = .ok (.goto 11, 3) := by decide +kernel
theorem dX7_readsRider_139 : decode cX7_readsRider 139 = .ok (.aload_n 0, 1) := by decide +kernel
theorem dX7_readsRider_140 : decode cX7_readsRider 140 = .ok (.iload_n 1, 1) := by decide +kernel
theorem dX7_readsRider_141 : decode cX7_readsRider 141 = .ok (.iload_n 2, 1) := by decide +kernel
theorem dX7_readsRider_142 : decode cX7_readsRider 142 = .ok (.bipush 9, 2) := by decide +kernel
theorem dX7_readsRider_144 : decode cX7_readsRider 144 = .ok (.invokevirtual 115, 3) := by decide +kernel
theorem dX7_readsRider_147 : decode cX7_readsRider 147 = .ok (.istore 7, 2) := by decide +kernel
theorem dX7_readsRider_149 : decode cX7_readsRider 149 = .ok (.iload 7, 2) := by decide +kernel
theorem dX7_readsRider_151 : decode cX7_readsRider 151 = .ok (.ifCond .ge 5, 3) := by decide +kernel
theorem dX7_readsRider_154 : decode cX7_readsRider 154 = .ok (.iconst 0, 1) := by decide +kernel
theorem dX7_readsRider_155 : decode cX7_readsRider 155 = .ok (.ireturn, 1) := by decide +kernel
theorem dX7_readsRider_156 : decode cX7_readsRider 156 = .ok (.aload_n 0, 1) := by decide +kernel
theorem dX7_readsRider_157 : decode cX7_readsRider 157 = .ok (.getfield 31, 3) := by decide +kernel
theorem dX7_readsRider_160 : decode cX7_readsRider 160 = .ok (.aload_n 0, 1) := by decide +kernel
theorem dX7_readsRider_161 : decode cX7_readsRider 161 = .ok (.getfield 112, 3) := by decide +kernel
theorem dX7_readsRider_164 : decode cX7_readsRider 164 = .ok (.iload_n 3, 1) := by decide +kernel
theorem dX7_readsRider_165 : decode cX7_readsRider 165 = .ok (.bipush 114, 2) := by decide +kernel
theorem dX7_readsRider_167 : decode cX7_readsRider 167 = .ok (.if_icmp .ne 7, 3) := by decide +kernel
theorem dX7_readsRider_170 : decode cX7_readsRider 170 = .ok (.iconst 0, 1) := by decide +kernel
theorem dX7_readsRider_171 : decode cX7_readsRider 171 = .ok (.goto 14, 3) := by decide +kernel
theorem dX7_readsRider_174 : decode cX7_readsRider 174 = .ok (.iload_n 3, 1) := by decide +kernel
theorem dX7_readsRider_175 : decode cX7_readsRider 175 = .ok (.bipush 108, 2) := by decide +kernel
theorem dX7_readsRider_177 : decode cX7_readsRider 177 = .ok (.if_icmp .ne 7, 3) := by decide +kernel
theorem dX7_readsRider_180 : decode cX7_readsRider 180 = .ok (.iconst 1, 1) := by decide +kernel
theorem dX7_readsRider_181 : decode cX7_readsRider 181 = .ok (.goto 4, 3) := by decide +kernel
theorem dX7_readsRider_184 : decode cX7_readsRider 184 = .ok (.iconst 2, 1) := by decide +kernel
theorem dX7_readsRider_185 : decode cX7_readsRider 185 = .ok (.iastore, 1) := by decide +kernel
theorem dX7_readsRider_186 : decode cX7_readsRider 186 = .ok (.aload_n 0, 1) := by decide +kernel
theorem dX7_readsRider_187 : decode cX7_readsRider 187 = .ok (.getfield 34, 3) := by decide +kernel
theorem dX7_readsRider_190 : decode cX7_readsRider 190 = .ok (.aload_n 0, 1) := by decide +kernel
theorem dX7_readsRider_191 : decode cX7_readsRider 191 = .ok (.getfield 112, 3) := by decide +kernel
theorem dX7_readsRider_194 : decode cX7_readsRider 194 = .ok (.iload 4, 2) := by decide +kernel
theorem dX7_readsRider_196 : decode cX7_readsRider 196 = .ok (.iastore, 1) := by decide +kernel
theorem dX7_readsRider_197 : decode cX7_readsRider 197 = .ok (.aload_n 0, 1) := by decide +kernel
theorem dX7_readsRider_198 : decode cX7_readsRider 198 = .ok (.getfield 37, 3) := by decide +kernel
theorem dX7_readsRider_201 : decode cX7_readsRider 201 = .ok (.aload_n 0, 1) := by decide +kernel
theorem dX7_readsRider_202 : decode cX7_readsRider 202 = .ok (.getfield 112, 3) := by decide +kernel
theorem dX7_readsRider_205 : decode cX7_readsRider 205 = .ok (.iload 5, 2) := by decide +kernel
theorem dX7_readsRider_207 : decode cX7_readsRider 207 = .ok (.iastore, 1) := by decide +kernel
theorem dX7_readsRider_208 : decode cX7_readsRider 208 = .ok (.aload_n 0, 1) := by decide +kernel
theorem dX7_readsRider_209 : decode cX7_readsRider 209 = .ok (.getfield 40, 3) := by decide +kernel
theorem dX7_readsRider_212 : decode cX7_readsRider 212 = .ok (.aload_n 0, 1) := by decide +kernel
theorem dX7_readsRider_213 : decode cX7_readsRider 213 = .ok (.getfield 112, 3) := by decide +kernel
theorem dX7_readsRider_216 : decode cX7_readsRider 216 = .ok (.iload 6, 2) := by decide +kernel
theorem dX7_readsRider_218 : decode cX7_readsRider 218 = .ok (.iastore, 1) := by decide +kernel
theorem dX7_readsRider_219 : decode cX7_readsRider 219 = .ok (.aload_n 0, 1) := by decide +kernel
theorem dX7_readsRider_220 : decode cX7_readsRider 220 = .ok (.getfield 43, 3) := by decide +kernel
theorem dX7_readsRider_223 : decode cX7_readsRider 223 = .ok (.aload_n 0, 1) := by decide +kernel
theorem dX7_readsRider_224 : decode cX7_readsRider 224 = .ok (.getfield 112, 3) := by decide +kernel
theorem dX7_readsRider_227 : decode cX7_readsRider 227 = .ok (.iload 7, 2) := by decide +kernel
theorem dX7_readsRider_229 : decode cX7_readsRider 229 = .ok (.iastore, 1) := by decide +kernel
theorem dX7_readsRider_230 : decode cX7_readsRider 230 = .ok (.aload_n 0, 1) := by decide +kernel
theorem dX7_readsRider_231 : decode cX7_readsRider 231 = .ok (.dup, 1) := by decide +kernel
theorem dX7_readsRider_232 : decode cX7_readsRider 232 = .ok (.getfield 112, 3) := by decide +kernel
theorem dX7_readsRider_235 : decode cX7_readsRider 235 = .ok (.iconst 1, 1) := by decide +kernel
theorem dX7_readsRider_236 : decode cX7_readsRider 236 = .ok (.iadd, 1) := by decide +kernel
theorem dX7_readsRider_237 : decode cX7_readsRider 237 = .ok (.putfield 112, 3) := by decide +kernel
theorem dX7_readsRider_240 : decode cX7_readsRider 240 = .ok (.iconst 1, 1) := by decide +kernel
theorem dX7_readsRider_241 : decode cX7_readsRider 241 = .ok (.ireturn, 1) := by decide +kernel
theorem dX7_readsRide_0 : decode cX7_readsRide 0 = .ok (.aload_n 0, 1) := by decide +kernel
theorem dX7_readsRide_1 : decode cX7_readsRide 1 = .ok (.iconst 0, 1) := by decide +kernel
theorem dX7_readsRide_2 : decode cX7_readsRide 2 = .ok (.putfield 98, 3) := by decide +kernel
theorem dX7_readsRide_5 : decode cX7_readsRide 5 = .ok (.aload_n 0, 1) := by decide +kernel
theorem dX7_readsRide_6 : decode cX7_readsRide 6 = .ok (.iconst 0, 1) := by decide +kernel
theorem dX7_readsRide_7 : decode cX7_readsRide 7 = .ok (.putfield 109, 3) := by decide +kernel
theorem dX7_readsRide_10 : decode cX7_readsRide 10 = .ok (.aload_n 0, 1) := by decide +kernel
theorem dX7_readsRide_11 : decode cX7_readsRide 11 = .ok (.iconst 0, 1) := by decide +kernel
theorem dX7_readsRide_12 : decode cX7_readsRide 12 = .ok (.putfield 112, 3) := by decide +kernel
theorem dX7_readsRide_15 : decode cX7_readsRide 15 = .ok (.aload_n 0, 1) := by decide +kernel
theorem dX7_readsRide_16 : decode cX7_readsRide 16 = .ok (.iload_n 1, 1) := by decide +kernel
theorem dX7_readsRide_17 : decode cX7_readsRide 17 = .ok (.iload_n 2, 1) := by decide +kernel
theorem dX7_readsRide_18 : decode cX7_readsRide 18 = .ok (.invokevirtual 101, 3) := by decide +kernel
theorem dX7_readsRide_21 : decode cX7_readsRide 21 = .ok (.bipush 117, 2) := by decide +kernel
theorem dX7_readsRide_23 : decode cX7_readsRide 23 = .ok (.if_icmp .ne 7, 3) := by decide +kernel
theorem dX7_readsRide_26 : decode cX7_readsRide 26 = .ok (.iconst 1, 1) := by decide +kernel
theorem dX7_readsRide_27 : decode cX7_readsRide 27 = .ok (.goto 4, 3) := by decide +kernel
theorem dX7_readsRide_30 : decode cX7_readsRide 30 = .ok (.iconst 0, 1) := by decide +kernel
theorem dX7_readsRide_31 : decode cX7_readsRide 31 = .ok (.istore_n 3, 1) := by decide +kernel
theorem dX7_readsRide_32 : decode cX7_readsRide 32 = .ok (.aload_n 0, 1) := by decide +kernel
theorem dX7_readsRide_33 : decode cX7_readsRide 33 = .ok (.dup, 1) := by decide +kernel
theorem dX7_readsRide_34 : decode cX7_readsRide 34 = .ok (.getfield 98, 3) := by decide +kernel
theorem dX7_readsRide_37 : decode cX7_readsRide 37 = .ok (.iload_n 3, 1) := by decide +kernel
theorem dX7_readsRide_38 : decode cX7_readsRide 38 = .ok (.ifCond .eq 7, 3) := by decide +kernel
theorem dX7_readsRide_41 : decode cX7_readsRide 41 = .ok (.iconst 1, 1) := by decide +kernel
theorem dX7_readsRide_42 : decode cX7_readsRide 42 = .ok (.goto 4, 3) := by decide +kernel
theorem dX7_readsRide_45 : decode cX7_readsRide 45 = .ok (.iconst 0, 1) := by decide +kernel
theorem dX7_readsRide_46 : decode cX7_readsRide 46 = .ok (.iadd, 1) := by decide +kernel
theorem dX7_readsRide_47 : decode cX7_readsRide 47 = .ok (.putfield 98, 3) := by decide +kernel
theorem dX7_readsRide_50 : decode cX7_readsRide 50 = .ok (.aload_n 0, 1) := by decide +kernel
theorem dX7_readsRide_51 : decode cX7_readsRide 51 = .ok (.iload_n 3, 1) := by decide +kernel
theorem dX7_readsRide_52 : decode cX7_readsRide 52 = .ok (.ifCond .eq 14, 3) := by decide +kernel
theorem dX7_readsRide_55 : decode cX7_readsRide 55 = .ok (.aload_n 0, 1) := by decide +kernel
theorem dX7_readsRide_56 : decode cX7_readsRide 56 = .ok (.iload_n 1, 1) := by decide +kernel
theorem dX7_readsRide_57 : decode cX7_readsRide 57 = .ok (.iload_n 2, 1) := by decide +kernel
theorem dX7_readsRide_58 : decode cX7_readsRide 58 = .ok (.iconst 0, 1) := by decide +kernel
theorem dX7_readsRide_59 : decode cX7_readsRide 59 = .ok (.iconst 3, 1) := by decide +kernel
theorem dX7_readsRide_60 : decode cX7_readsRide 60 = .ok (.invokevirtual 105, 3) := by decide +kernel
theorem dX7_readsRide_63 : decode cX7_readsRide 63 = .ok (.goto 5, 3) := by decide +kernel
theorem dX7_readsRide_66 : decode cX7_readsRide 66 = .ok (.bipush (-9), 2) := by decide +kernel
theorem dX7_readsRide_68 : decode cX7_readsRide 68 = .ok (.putfield 119, 3) := by decide +kernel
theorem dX7_readsRide_71 : decode cX7_readsRide 71 = .ok (.aload_n 0, 1) := by decide +kernel
theorem dX7_readsRide_72 : decode cX7_readsRide 72 = .ok (.getfield 119, 3) := by decide +kernel
theorem dX7_readsRide_75 : decode cX7_readsRide 75 = .ok (.ifCond .lt 18, 3) := by decide +kernel
theorem dX7_readsRide_78 : decode cX7_readsRide 78 = .ok (.aload_n 0, 1) := by decide +kernel
theorem dX7_readsRide_79 : decode cX7_readsRide 79 = .ok (.iload_n 1, 1) := by decide +kernel
theorem dX7_readsRide_80 : decode cX7_readsRide 80 = .ok (.iload_n 2, 1) := by decide +kernel
theorem dX7_readsRide_81 : decode cX7_readsRide 81 = .ok (.invokevirtual 101, 3) := by decide +kernel
theorem dX7_readsRide_84 : decode cX7_readsRide 84 = .ok (.bipush 44, 2) := by decide +kernel
theorem dX7_readsRide_86 : decode cX7_readsRide 86 = .ok (.if_icmp .ne 7, 3) := by decide +kernel
theorem dX7_readsRide_89 : decode cX7_readsRide 89 = .ok (.iconst 1, 1) := by decide +kernel
theorem dX7_readsRide_90 : decode cX7_readsRide 90 = .ok (.goto 4, 3) := by decide +kernel
theorem dX7_readsRide_93 : decode cX7_readsRide 93 = .ok (.iconst 0, 1) := by decide +kernel
theorem dX7_readsRide_94 : decode cX7_readsRide 94 = .ok (.istore_n 3, 1) := by decide +kernel
theorem dX7_readsRide_95 : decode cX7_readsRide 95 = .ok (.aload_n 0, 1) := by decide +kernel
theorem dX7_readsRide_96 : decode cX7_readsRide 96 = .ok (.dup, 1) := by decide +kernel
theorem dX7_readsRide_97 : decode cX7_readsRide 97 = .ok (.getfield 98, 3) := by decide +kernel
theorem dX7_readsRide_100 : decode cX7_readsRide 100 = .ok (.iload_n 3, 1) := by decide +kernel
theorem dX7_readsRide_101 : decode cX7_readsRide 101 = .ok (.ifCond .eq 7, 3) := by decide +kernel
theorem dX7_readsRide_104 : decode cX7_readsRide 104 = .ok (.iconst 1, 1) := by decide +kernel
theorem dX7_readsRide_105 : decode cX7_readsRide 105 = .ok (.goto 4, 3) := by decide +kernel
theorem dX7_readsRide_108 : decode cX7_readsRide 108 = .ok (.iconst 0, 1) := by decide +kernel
theorem dX7_readsRide_109 : decode cX7_readsRide 109 = .ok (.iadd, 1) := by decide +kernel
theorem dX7_readsRide_110 : decode cX7_readsRide 110 = .ok (.putfield 98, 3) := by decide +kernel
theorem dX7_readsRide_113 : decode cX7_readsRide 113 = .ok (.iload_n 3, 1) := by decide +kernel
theorem dX7_readsRide_114 : decode cX7_readsRide 114 = .ok (.ifCond .eq 16, 3) := by decide +kernel
theorem dX7_readsRide_117 : decode cX7_readsRide 117 = .ok (.aload_n 0, 1) := by decide +kernel
theorem dX7_readsRide_118 : decode cX7_readsRide 118 = .ok (.iload_n 1, 1) := by decide +kernel
theorem dX7_readsRide_119 : decode cX7_readsRide 119 = .ok (.iload_n 2, 1) := by decide +kernel
theorem dX7_readsRide_120 : decode cX7_readsRide 120 = .ok (.invokevirtual 122, 3) := by decide +kernel
theorem dX7_readsRide_123 : decode cX7_readsRide 123 = .ok (.ifCond .eq 7, 3) := by decide +kernel
theorem dX7_readsRide_126 : decode cX7_readsRide 126 = .ok (.iconst 1, 1) := by decide +kernel
theorem dX7_readsRide_127 : decode cX7_readsRide 127 = .ok (.goto 4, 3) := by decide +kernel
theorem dX7_readsRide_130 : decode cX7_readsRide 130 = .ok (.iconst 0, 1) := by decide +kernel
theorem dX7_readsRide_131 : decode cX7_readsRide 131 = .ok (.istore_n 3, 1) := by decide +kernel
theorem dX7_readsRide_132 : decode cX7_readsRide 132 = .ok (.iload_n 3, 1) := by decide +kernel
theorem dX7_readsRide_133 : decode cX7_readsRide 133 = .ok (.ifCond .eq 28, 3) := by decide +kernel
theorem dX7_readsRide_136 : decode cX7_readsRide 136 = .ok (.aload_n 0, 1) := by decide +kernel
theorem dX7_readsRide_137 : decode cX7_readsRide 137 = .ok (.getfield 112, 3) := by decide +kernel
theorem dX7_readsRide_140 : decode cX7_readsRide 140 = .ok (.ifCond .eq 11, 3) := by decide +kernel
theorem dX7_readsRide_143 : decode cX7_readsRide 143 = .ok (.aload_n 0, 1) := by decide +kernel
theorem dX7_readsRide_144 : decode cX7_readsRide 144 = .ok (.getfield 98, 3) := by decide +kernel
theorem dX7_readsRide_147 : decode cX7_readsRide 147 = .ok (.iload_n 2, 1) := by decide +kernel
theorem dX7_readsRide_148 : decode cX7_readsRide 148 = .ok (.if_icmp .ge 13, 3) := by decide +kernel
theorem dX7_readsRide_151 : decode cX7_readsRide 151 = .ok (.aload_n 0, 1) := by decide +kernel
theorem dX7_readsRide_152 : decode cX7_readsRide 152 = .ok (.iload_n 1, 1) := by decide +kernel
theorem dX7_readsRide_153 : decode cX7_readsRide 153 = .ok (.iload_n 2, 1) := by decide +kernel
theorem dX7_readsRide_154 : decode cX7_readsRide 154 = .ok (.invokevirtual 126, 3) := by decide +kernel
theorem dX7_readsRide_157 : decode cX7_readsRide 157 = .ok (.istore_n 3, 1) := by decide +kernel
theorem dX7_readsRide_158 : decode cX7_readsRide 158 = .ok (.goto (-26), 3) := by decide +kernel
theorem dX7_readsRide_161 : decode cX7_readsRide 161 = .ok (.iload_n 3, 1) := by decide +kernel
theorem dX7_readsRide_162 : decode cX7_readsRide 162 = .ok (.ireturn, 1) := by decide +kernel
theorem dX7_cellsBarred_0 : decode cX7_cellsBarred 0 = .ok (.aload_n 0, 1) := by decide +kernel
theorem dX7_cellsBarred_1 : decode cX7_cellsBarred 1 = .ok (.getfield 62, 3) := by decide +kernel
theorem dX7_cellsBarred_4 : decode cX7_cellsBarred 4 = .ok (.iload_n 1, 1) := by decide +kernel
theorem dX7_cellsBarred_5 : decode cX7_cellsBarred 5 = .ok (.iaload, 1) := by decide +kernel
theorem dX7_cellsBarred_6 : decode cX7_cellsBarred 6 = .ok (.ifCond .lt 19, 3) := by decide +kernel
theorem dX7_cellsBarred_9 : decode cX7_cellsBarred 9 = .ok (.aload_n 0, 1) := by decide +kernel
theorem dX7_cellsBarred_10 : decode cX7_cellsBarred 10 = .ok (.getfield 65, 3) := by decide +kernel
theorem dX7_cellsBarred_13 : decode cX7_cellsBarred 13 = .ok (.iload_n 1, 1) := by decide +kernel
theorem dX7_cellsBarred_14 : decode cX7_cellsBarred 14 = .ok (.iaload, 1) := by decide +kernel
theorem dX7_cellsBarred_15 : decode cX7_cellsBarred 15 = .ok (.iload_n 2, 1) := by decide +kernel
theorem dX7_cellsBarred_16 : decode cX7_cellsBarred 16 = .ok (.if_icmp .eq 9, 3) := by decide +kernel
theorem dX7_cellsBarred_19 : decode cX7_cellsBarred 19 = .ok (.aload_n 0, 1) := by decide +kernel
theorem dX7_cellsBarred_20 : decode cX7_cellsBarred 20 = .ok (.iconst 2, 1) := by decide +kernel
theorem dX7_cellsBarred_21 : decode cX7_cellsBarred 21 = .ok (.invokevirtual 129, 3) := by decide +kernel
theorem dX7_cellsBarred_24 : decode cX7_cellsBarred 24 = .ok (.ireturn, 1) := by decide +kernel
theorem dX7_cellsBarred_25 : decode cX7_cellsBarred 25 = .ok (.aload_n 0, 1) := by decide +kernel
theorem dX7_cellsBarred_26 : decode cX7_cellsBarred 26 = .ok (.getfield 62, 3) := by decide +kernel
theorem dX7_cellsBarred_29 : decode cX7_cellsBarred 29 = .ok (.iload_n 1, 1) := by decide +kernel
theorem dX7_cellsBarred_30 : decode cX7_cellsBarred 30 = .ok (.iaload, 1) := by decide +kernel
theorem dX7_cellsBarred_31 : decode cX7_cellsBarred 31 = .ok (.ifCond .ge 9, 3) := by decide +kernel
theorem dX7_cellsBarred_34 : decode cX7_cellsBarred 34 = .ok (.aload_n 0, 1) := by decide +kernel
theorem dX7_cellsBarred_35 : decode cX7_cellsBarred 35 = .ok (.iconst 1, 1) := by decide +kernel
theorem dX7_cellsBarred_36 : decode cX7_cellsBarred 36 = .ok (.invokevirtual 129, 3) := by decide +kernel
theorem dX7_cellsBarred_39 : decode cX7_cellsBarred 39 = .ok (.ireturn, 1) := by decide +kernel
theorem dX7_cellsBarred_40 : decode cX7_cellsBarred 40 = .ok (.lload 4, 2) := by decide +kernel
theorem dX7_cellsBarred_42 : decode cX7_cellsBarred 42 = .ok (.lconst 0, 1) := by decide +kernel
theorem dX7_cellsBarred_43 : decode cX7_cellsBarred 43 = .ok (.lcmp, 1) := by decide +kernel
theorem dX7_cellsBarred_44 : decode cX7_cellsBarred 44 = .ok (.ifCond .ge 9, 3) := by decide +kernel
theorem dX7_cellsBarred_47 : decode cX7_cellsBarred 47 = .ok (.aload_n 0, 1) := by decide +kernel
theorem dX7_cellsBarred_48 : decode cX7_cellsBarred 48 = .ok (.iconst 4, 1) := by decide +kernel
theorem dX7_cellsBarred_49 : decode cX7_cellsBarred 49 = .ok (.invokevirtual 129, 3) := by decide +kernel
theorem dX7_cellsBarred_52 : decode cX7_cellsBarred 52 = .ok (.ireturn, 1) := by decide +kernel
theorem dX7_cellsBarred_53 : decode cX7_cellsBarred 53 = .ok (.iload_n 3, 1) := by decide +kernel
theorem dX7_cellsBarred_54 : decode cX7_cellsBarred 54 = .ok (.lload 4, 2) := by decide +kernel
theorem dX7_cellsBarred_56 : decode cX7_cellsBarred 56 = .ok (.aload_n 0, 1) := by decide +kernel
theorem dX7_cellsBarred_57 : decode cX7_cellsBarred 57 = .ok (.getfield 62, 3) := by decide +kernel
theorem dX7_cellsBarred_60 : decode cX7_cellsBarred 60 = .ok (.iload_n 1, 1) := by decide +kernel
theorem dX7_cellsBarred_61 : decode cX7_cellsBarred 61 = .ok (.iaload, 1) := by decide +kernel
theorem dX7_cellsBarred_62 : decode cX7_cellsBarred 62 = .ok (.invokestatic 132, 3) := by decide +kernel
theorem dX7_cellsBarred_65 : decode cX7_cellsBarred 65 = .ok (.ifCond .eq 11, 3) := by decide +kernel
theorem dX7_cellsBarred_68 : decode cX7_cellsBarred 68 = .ok (.aload_n 0, 1) := by decide +kernel
theorem dX7_cellsBarred_69 : decode cX7_cellsBarred 69 = .ok (.iconst 3, 1) := by decide +kernel
theorem dX7_cellsBarred_70 : decode cX7_cellsBarred 70 = .ok (.invokevirtual 129, 3) := by decide +kernel
theorem dX7_cellsBarred_73 : decode cX7_cellsBarred 73 = .ok (.goto 4, 3) := by decide +kernel
theorem dX7_cellsBarred_76 : decode cX7_cellsBarred 76 = .ok (.iconst 0, 1) := by decide +kernel
theorem dX7_cellsBarred_77 : decode cX7_cellsBarred 77 = .ok (.ireturn, 1) := by decide +kernel
theorem dX7_ride_0 : decode cX7_ride 0 = .ok (.iload_n 1, 1) := by decide +kernel
theorem dX7_ride_1 : decode cX7_ride 1 = .ok (.invokestatic 136, 3) := by decide +kernel
theorem dX7_ride_4 : decode cX7_ride 4 = .ok (.ifCond .eq 9, 3) := by decide +kernel
theorem dX7_ride_7 : decode cX7_ride 7 = .ok (.aload_n 0, 1) := by decide +kernel
theorem dX7_ride_8 : decode cX7_ride 8 = .ok (.iconst (-1), 1) := by decide +kernel
theorem dX7_ride_9 : decode cX7_ride 9 = .ok (.invokevirtual 140, 3) := by decide +kernel
theorem dX7_ride_12 : decode cX7_ride 12 = .ok (.ireturn, 1) := by decide +kernel
theorem dX7_ride_13 : decode cX7_ride 13 = .ok (.iload_n 2, 1) := by decide +kernel
theorem dX7_ride_14 : decode cX7_ride 14 = .ok (.i2l, 1) := by decide +kernel
theorem dX7_ride_15 : decode cX7_ride 15 = .ok (.lconst 0, 1) := by decide +kernel
theorem dX7_ride_16 : decode cX7_ride 16 = .ok (.ldc2_w 143, 3) := by decide +kernel
theorem dX7_ride_19 : decode cX7_ride 19 = .ok (.invokestatic 87, 3) := by decide +kernel
theorem dX7_ride_22 : decode cX7_ride 22 = .ok (.ifCond .ne 10, 3) := by decide +kernel
theorem dX7_ride_25 : decode cX7_ride 25 = .ok (.aload_n 0, 1) := by decide +kernel
theorem dX7_ride_26 : decode cX7_ride 26 = .ok (.bipush (-2), 2) := by decide +kernel
theorem dX7_ride_28 : decode cX7_ride 28 = .ok (.invokevirtual 140, 3) := by decide +kernel
theorem dX7_ride_31 : decode cX7_ride 31 = .ok (.ireturn, 1) := by decide +kernel
theorem dX7_ride_32 : decode cX7_ride 32 = .ok (.aload_n 0, 1) := by decide +kernel
theorem dX7_ride_33 : decode cX7_ride 33 = .ok (.iload_n 1, 1) := by decide +kernel
theorem dX7_ride_34 : decode cX7_ride 34 = .ok (.iload_n 2, 1) := by decide +kernel
theorem dX7_ride_35 : decode cX7_ride 35 = .ok (.iload_n 3, 1) := by decide +kernel
theorem dX7_ride_36 : decode cX7_ride 36 = .ok (.iload 4, 2) := by decide +kernel
theorem dX7_ride_38 : decode cX7_ride 38 = .ok (.i2l, 1) := by decide +kernel
theorem dX7_ride_39 : decode cX7_ride 39 = .ok (.invokevirtual 145, 3) := by decide +kernel
theorem dX7_ride_42 : decode cX7_ride 42 = .ok (.istore 5, 2) := by decide +kernel
theorem dX7_ride_44 : decode cX7_ride 44 = .ok (.iload 5, 2) := by decide +kernel
theorem dX7_ride_46 : decode cX7_ride 46 = .ok (.ifCond .ge 6, 3) := by decide +kernel
theorem dX7_ride_49 : decode cX7_ride 49 = .ok (.iload 5, 2) := by decide +kernel
theorem dX7_ride_51 : decode cX7_ride 51 = .ok (.ireturn, 1) := by decide +kernel
theorem dX7_ride_52 : decode cX7_ride 52 = .ok (.aload_n 0, 1) := by decide +kernel
theorem dX7_ride_53 : decode cX7_ride 53 = .ok (.bipush 60, 2) := by decide +kernel
theorem dX7_ride_55 : decode cX7_ride 55 = .ok (.iload_n 1, 1) := by decide +kernel
theorem dX7_ride_56 : decode cX7_ride 56 = .ok (.imul, 1) := by decide +kernel
theorem dX7_ride_57 : decode cX7_ride 57 = .ok (.iload_n 3, 1) := by decide +kernel
theorem dX7_ride_58 : decode cX7_ride 58 = .ok (.iadd, 1) := by decide +kernel
theorem dX7_ride_59 : decode cX7_ride 59 = .ok (.iload 4, 2) := by decide +kernel
theorem dX7_ride_61 : decode cX7_ride 61 = .ok (.invokevirtual 149, 3) := by decide +kernel
theorem dX7_ride_64 : decode cX7_ride 64 = .ok (.ifCond .ne 15, 3) := by decide +kernel
theorem dX7_ride_67 : decode cX7_ride 67 = .ok (.aload_n 0, 1) := by decide +kernel
theorem dX7_ride_68 : decode cX7_ride 68 = .ok (.bipush (-100), 2) := by decide +kernel
theorem dX7_ride_70 : decode cX7_ride 70 = .ok (.aload_n 0, 1) := by decide +kernel
theorem dX7_ride_71 : decode cX7_ride 71 = .ok (.getfield 98, 3) := by decide +kernel
theorem dX7_ride_74 : decode cX7_ride 74 = .ok (.isub, 1) := by decide +kernel
theorem dX7_ride_75 : decode cX7_ride 75 = .ok (.invokevirtual 140, 3) := by decide +kernel
theorem dX7_ride_78 : decode cX7_ride 78 = .ok (.ireturn, 1) := by decide +kernel
theorem dX7_ride_79 : decode cX7_ride 79 = .ok (.aload_n 0, 1) := by decide +kernel
theorem dX7_ride_80 : decode cX7_ride 80 = .ok (.aload_n 0, 1) := by decide +kernel
theorem dX7_ride_81 : decode cX7_ride 81 = .ok (.getfield 119, 3) := by decide +kernel
theorem dX7_ride_84 : decode cX7_ride 84 = .ok (.putfield 152, 3) := by decide +kernel
theorem dX7_ride_87 : decode cX7_ride 87 = .ok (.aload_n 0, 1) := by decide +kernel
theorem dX7_ride_88 : decode cX7_ride 88 = .ok (.aload_n 0, 1) := by decide +kernel
theorem dX7_ride_89 : decode cX7_ride 89 = .ok (.getfield 109, 3) := by decide +kernel
theorem dX7_ride_92 : decode cX7_ride 92 = .ok (.putfield 84, 3) := by decide +kernel
theorem dX7_ride_95 : decode cX7_ride 95 = .ok (.aload_n 0, 1) := by decide +kernel
theorem dX7_ride_96 : decode cX7_ride 96 = .ok (.aload_n 0, 1) := by decide +kernel
theorem dX7_ride_97 : decode cX7_ride 97 = .ok (.getfield 112, 3) := by decide +kernel
theorem dX7_ride_100 : decode cX7_ride 100 = .ok (.putfield 91, 3) := by decide +kernel
theorem dX7_ride_103 : decode cX7_ride 103 = .ok (.iconst 0, 1) := by decide +kernel
theorem dX7_ride_104 : decode cX7_ride 104 = .ok (.istore 6, 2) := by decide +kernel
theorem dX7_ride_106 : decode cX7_ride 106 = .ok (.iload 6, 2) := by decide +kernel
theorem dX7_ride_108 : decode cX7_ride 108 = .ok (.aload_n 0, 1) := by decide +kernel
theorem dX7_ride_109 : decode cX7_ride 109 = .ok (.getfield 84, 3) := by decide +kernel
theorem dX7_ride_112 : decode cX7_ride 112 = .ok (.if_icmp .ge 23, 3) := by decide +kernel
theorem dX7_ride_115 : decode cX7_ride 115 = .ok (.aload_n 0, 1) := by decide +kernel
theorem dX7_ride_116 : decode cX7_ride 116 = .ok (.getfield 7, 3) := by decide +kernel
theorem dX7_ride_119 : decode cX7_ride 119 = .ok (.iload 6, 2) := by decide +kernel
theorem dX7_ride_121 : decode cX7_ride 121 = .ok (.aload_n 0, 1) := by decide +kernel
theorem dX7_ride_122 : decode cX7_ride 122 = .ok (.getfield 28, 3) := by decide +kernel
theorem dX7_ride_125 : decode cX7_ride 125 = .ok (.iload 6, 2) := by decide +kernel
theorem dX7_ride_127 : decode cX7_ride 127 = .ok (.iaload, 1) := by decide +kernel
theorem dX7_ride_128 : decode cX7_ride 128 = .ok (.iastore, 1) := by decide +kernel
theorem dX7_ride_129 : decode cX7_ride 129 = .ok (.iinc 6 1, 3) := by decide +kernel
theorem dX7_ride_132 : decode cX7_ride 132 = .ok (.goto (-26), 3) := by decide +kernel
theorem dX7_ride_135 : decode cX7_ride 135 = .ok (.iconst 0, 1) := by decide +kernel
theorem dX7_ride_136 : decode cX7_ride 136 = .ok (.istore 6, 2) := by decide +kernel
theorem dX7_ride_138 : decode cX7_ride 138 = .ok (.iload 6, 2) := by decide +kernel
theorem dX7_ride_140 : decode cX7_ride 140 = .ok (.aload_n 0, 1) := by decide +kernel
theorem dX7_ride_141 : decode cX7_ride 141 = .ok (.getfield 91, 3) := by decide +kernel
theorem dX7_ride_144 : decode cX7_ride 144 = .ok (.if_icmp .ge 79, 3) := by decide +kernel
theorem dX7_ride_147 : decode cX7_ride 147 = .ok (.aload_n 0, 1) := by decide +kernel
theorem dX7_ride_148 : decode cX7_ride 148 = .ok (.getfield 13, 3) := by decide +kernel
theorem dX7_ride_151 : decode cX7_ride 151 = .ok (.iload 6, 2) := by decide +kernel
theorem dX7_ride_153 : decode cX7_ride 153 = .ok (.aload_n 0, 1) := by decide +kernel
theorem dX7_ride_154 : decode cX7_ride 154 = .ok (.getfield 31, 3) := by decide +kernel
theorem dX7_ride_157 : decode cX7_ride 157 = .ok (.iload 6, 2) := by decide +kernel
theorem dX7_ride_159 : decode cX7_ride 159 = .ok (.iaload, 1) := by decide +kernel
theorem dX7_ride_160 : decode cX7_ride 160 = .ok (.iastore, 1) := by decide +kernel
theorem dX7_ride_161 : decode cX7_ride 161 = .ok (.aload_n 0, 1) := by decide +kernel
theorem dX7_ride_162 : decode cX7_ride 162 = .ok (.getfield 16, 3) := by decide +kernel
theorem dX7_ride_165 : decode cX7_ride 165 = .ok (.iload 6, 2) := by decide +kernel
theorem dX7_ride_167 : decode cX7_ride 167 = .ok (.aload_n 0, 1) := by decide +kernel
theorem dX7_ride_168 : decode cX7_ride 168 = .ok (.getfield 34, 3) := by decide +kernel
theorem dX7_ride_171 : decode cX7_ride 171 = .ok (.iload 6, 2) := by decide +kernel
theorem dX7_ride_173 : decode cX7_ride 173 = .ok (.iaload, 1) := by decide +kernel
theorem dX7_ride_174 : decode cX7_ride 174 = .ok (.iastore, 1) := by decide +kernel
theorem dX7_ride_175 : decode cX7_ride 175 = .ok (.aload_n 0, 1) := by decide +kernel
theorem dX7_ride_176 : decode cX7_ride 176 = .ok (.getfield 19, 3) := by decide +kernel
theorem dX7_ride_179 : decode cX7_ride 179 = .ok (.iload 6, 2) := by decide +kernel
theorem dX7_ride_181 : decode cX7_ride 181 = .ok (.aload_n 0, 1) := by decide +kernel
theorem dX7_ride_182 : decode cX7_ride 182 = .ok (.getfield 37, 3) := by decide +kernel
theorem dX7_ride_185 : decode cX7_ride 185 = .ok (.iload 6, 2) := by decide +kernel
theorem dX7_ride_187 : decode cX7_ride 187 = .ok (.iaload, 1) := by decide +kernel
theorem dX7_ride_188 : decode cX7_ride 188 = .ok (.iastore, 1) := by decide +kernel
theorem dX7_ride_189 : decode cX7_ride 189 = .ok (.aload_n 0, 1) := by decide +kernel
theorem dX7_ride_190 : decode cX7_ride 190 = .ok (.getfield 22, 3) := by decide +kernel
theorem dX7_ride_193 : decode cX7_ride 193 = .ok (.iload 6, 2) := by decide +kernel
theorem dX7_ride_195 : decode cX7_ride 195 = .ok (.aload_n 0, 1) := by decide +kernel
theorem dX7_ride_196 : decode cX7_ride 196 = .ok (.getfield 40, 3) := by decide +kernel
theorem dX7_ride_199 : decode cX7_ride 199 = .ok (.iload 6, 2) := by decide +kernel
theorem dX7_ride_201 : decode cX7_ride 201 = .ok (.iaload, 1) := by decide +kernel
theorem dX7_ride_202 : decode cX7_ride 202 = .ok (.iastore, 1) := by decide +kernel
theorem dX7_ride_203 : decode cX7_ride 203 = .ok (.aload_n 0, 1) := by decide +kernel
theorem dX7_ride_204 : decode cX7_ride 204 = .ok (.getfield 25, 3) := by decide +kernel
theorem dX7_ride_207 : decode cX7_ride 207 = .ok (.iload 6, 2) := by decide +kernel
theorem dX7_ride_209 : decode cX7_ride 209 = .ok (.aload_n 0, 1) := by decide +kernel
theorem dX7_ride_210 : decode cX7_ride 210 = .ok (.getfield 43, 3) := by decide +kernel
theorem dX7_ride_213 : decode cX7_ride 213 = .ok (.iload 6, 2) := by decide +kernel
theorem dX7_ride_215 : decode cX7_ride 215 = .ok (.iaload, 1) := by decide +kernel
theorem dX7_ride_216 : decode cX7_ride 216 = .ok (.iastore, 1) := by decide +kernel
theorem dX7_ride_217 : decode cX7_ride 217 = .ok (.iinc 6 1, 3) := by decide +kernel
theorem dX7_ride_220 : decode cX7_ride 220 = .ok (.goto (-82), 3) := by decide +kernel
theorem dX7_ride_223 : decode cX7_ride 223 = .ok (.aload_n 0, 1) := by decide +kernel
theorem dX7_ride_224 : decode cX7_ride 224 = .ok (.iconst 0, 1) := by decide +kernel
theorem dX7_ride_225 : decode cX7_ride 225 = .ok (.putfield 155, 3) := by decide +kernel
theorem dX7_ride_228 : decode cX7_ride 228 = .ok (.aload_n 0, 1) := by decide +kernel
theorem dX7_ride_229 : decode cX7_ride 229 = .ok (.aload_n 0, 1) := by decide +kernel
theorem dX7_ride_230 : decode cX7_ride 230 = .ok (.getfield 91, 3) := by decide +kernel
theorem dX7_ride_233 : decode cX7_ride 233 = .ok (.invokevirtual 140, 3) := by decide +kernel
theorem dX7_ride_236 : decode cX7_ride 236 = .ok (.ireturn, 1) := by decide +kernel
theorem dX7_ofRider_0 : decode cX7_ofRider 0 = .ok (.aload_n 0, 1) := by decide +kernel
theorem dX7_ofRider_1 : decode cX7_ofRider 1 = .ok (.iload_n 1, 1) := by decide +kernel
theorem dX7_ofRider_2 : decode cX7_ofRider 2 = .ok (.invokevirtual 158, 3) := by decide +kernel
theorem dX7_ofRider_5 : decode cX7_ofRider 5 = .ok (.ifCond .eq 5, 3) := by decide +kernel
theorem dX7_ofRider_8 : decode cX7_ofRider 8 = .ok (.iconst (-1), 1) := by decide +kernel
theorem dX7_ofRider_9 : decode cX7_ofRider 9 = .ok (.ireturn, 1) := by decide +kernel
theorem dX7_ofRider_10 : decode cX7_ofRider 10 = .ok (.iload_n 2, 1) := by decide +kernel
theorem dX7_ofRider_11 : decode cX7_ofRider 11 = .ok (.tableswitch 78 0 5 #[37, 44, 51, 58, 65, 72], 37) := by decide +kernel
theorem dX7_ofRider_48 : decode cX7_ofRider 48 = .ok (.aload_n 0, 1) := by decide +kernel
theorem dX7_ofRider_49 : decode cX7_ofRider 49 = .ok (.getfield 13, 3) := by decide +kernel
theorem dX7_ofRider_52 : decode cX7_ofRider 52 = .ok (.iload_n 1, 1) := by decide +kernel
theorem dX7_ofRider_53 : decode cX7_ofRider 53 = .ok (.iaload, 1) := by decide +kernel
theorem dX7_ofRider_54 : decode cX7_ofRider 54 = .ok (.ireturn, 1) := by decide +kernel
theorem dX7_ofRider_55 : decode cX7_ofRider 55 = .ok (.aload_n 0, 1) := by decide +kernel
theorem dX7_ofRider_56 : decode cX7_ofRider 56 = .ok (.getfield 16, 3) := by decide +kernel
theorem dX7_ofRider_59 : decode cX7_ofRider 59 = .ok (.iload_n 1, 1) := by decide +kernel
theorem dX7_ofRider_60 : decode cX7_ofRider 60 = .ok (.iaload, 1) := by decide +kernel
theorem dX7_ofRider_61 : decode cX7_ofRider 61 = .ok (.ireturn, 1) := by decide +kernel
theorem dX7_ofRider_62 : decode cX7_ofRider 62 = .ok (.aload_n 0, 1) := by decide +kernel
theorem dX7_ofRider_63 : decode cX7_ofRider 63 = .ok (.getfield 19, 3) := by decide +kernel
theorem dX7_ofRider_66 : decode cX7_ofRider 66 = .ok (.iload_n 1, 1) := by decide +kernel
theorem dX7_ofRider_67 : decode cX7_ofRider 67 = .ok (.iaload, 1) := by decide +kernel
theorem dX7_ofRider_68 : decode cX7_ofRider 68 = .ok (.ireturn, 1) := by decide +kernel
theorem dX7_ofRider_69 : decode cX7_ofRider 69 = .ok (.aload_n 0, 1) := by decide +kernel
theorem dX7_ofRider_70 : decode cX7_ofRider 70 = .ok (.getfield 22, 3) := by decide +kernel
theorem dX7_ofRider_73 : decode cX7_ofRider 73 = .ok (.iload_n 1, 1) := by decide +kernel
theorem dX7_ofRider_74 : decode cX7_ofRider 74 = .ok (.iaload, 1) := by decide +kernel
theorem dX7_ofRider_75 : decode cX7_ofRider 75 = .ok (.ireturn, 1) := by decide +kernel
theorem dX7_ofRider_76 : decode cX7_ofRider 76 = .ok (.aload_n 0, 1) := by decide +kernel
theorem dX7_ofRider_77 : decode cX7_ofRider 77 = .ok (.getfield 25, 3) := by decide +kernel
theorem dX7_ofRider_80 : decode cX7_ofRider 80 = .ok (.iload_n 1, 1) := by decide +kernel
theorem dX7_ofRider_81 : decode cX7_ofRider 81 = .ok (.iaload, 1) := by decide +kernel
theorem dX7_ofRider_82 : decode cX7_ofRider 82 = .ok (.ireturn, 1) := by decide +kernel
theorem dX7_ofRider_83 : decode cX7_ofRider 83 = .ok (.aload_n 0, 1) := by decide +kernel
theorem dX7_ofRider_84 : decode cX7_ofRider 84 = .ok (.iload_n 1, 1) := by decide +kernel
theorem dX7_ofRider_85 : decode cX7_ofRider 85 = .ok (.invokevirtual 94, 3) := by decide +kernel
theorem dX7_ofRider_88 : decode cX7_ofRider 88 = .ok (.ireturn, 1) := by decide +kernel
theorem dX7_ofRider_89 : decode cX7_ofRider 89 = .ok (.bipush (-2), 2) := by decide +kernel
theorem dX7_ofRider_91 : decode cX7_ofRider 91 = .ok (.ireturn, 1) := by decide +kernel
theorem dX7_slope_0 : decode cX7_slope 0 = .ok (.aload_n 0, 1) := by decide +kernel
theorem dX7_slope_1 : decode cX7_slope 1 = .ok (.iload_n 1, 1) := by decide +kernel
theorem dX7_slope_2 : decode cX7_slope 2 = .ok (.invokevirtual 161, 3) := by decide +kernel
theorem dX7_slope_5 : decode cX7_slope 5 = .ok (.ifCond .eq 7, 3) := by decide +kernel
theorem dX7_slope_8 : decode cX7_slope 8 = .ok (.iconst (-1), 1) := by decide +kernel
theorem dX7_slope_9 : decode cX7_slope 9 = .ok (.goto 9, 3) := by decide +kernel
theorem dX7_slope_12 : decode cX7_slope 12 = .ok (.aload_n 0, 1) := by decide +kernel
theorem dX7_slope_13 : decode cX7_slope 13 = .ok (.getfield 7, 3) := by decide +kernel
theorem dX7_slope_16 : decode cX7_slope 16 = .ok (.iload_n 1, 1) := by decide +kernel
theorem dX7_slope_17 : decode cX7_slope 17 = .ok (.iaload, 1) := by decide +kernel
theorem dX7_slope_18 : decode cX7_slope 18 = .ok (.ireturn, 1) := by decide +kernel
theorem dX7_tilt_0 : decode cX7_tilt 0 = .ok (.aload_n 0, 1) := by decide +kernel
theorem dX7_tilt_1 : decode cX7_tilt 1 = .ok (.iload_n 1, 1) := by decide +kernel
theorem dX7_tilt_2 : decode cX7_tilt 2 = .ok (.invokevirtual 161, 3) := by decide +kernel
theorem dX7_tilt_5 : decode cX7_tilt 5 = .ok (.ifCond .eq 5, 3) := by decide +kernel
theorem dX7_tilt_8 : decode cX7_tilt 8 = .ok (.iconst (-1), 1) := by decide +kernel
theorem dX7_tilt_9 : decode cX7_tilt 9 = .ok (.ireturn, 1) := by decide +kernel
theorem dX7_tilt_10 : decode cX7_tilt 10 = .ok (.iload_n 2, 1) := by decide +kernel
theorem dX7_tilt_11 : decode cX7_tilt 11 = .ok (.i2l, 1) := by decide +kernel
theorem dX7_tilt_12 : decode cX7_tilt 12 = .ok (.lconst 0, 1) := by decide +kernel
theorem dX7_tilt_13 : decode cX7_tilt 13 = .ok (.ldc2_w 164, 3) := by decide +kernel
theorem dX7_tilt_16 : decode cX7_tilt 16 = .ok (.invokestatic 87, 3) := by decide +kernel
theorem dX7_tilt_19 : decode cX7_tilt 19 = .ok (.ifCond .ne 6, 3) := by decide +kernel
theorem dX7_tilt_22 : decode cX7_tilt 22 = .ok (.bipush (-2), 2) := by decide +kernel
theorem dX7_tilt_24 : decode cX7_tilt 24 = .ok (.ireturn, 1) := by decide +kernel
theorem dX7_tilt_25 : decode cX7_tilt 25 = .ok (.aload_n 0, 1) := by decide +kernel
theorem dX7_tilt_26 : decode cX7_tilt 26 = .ok (.getfield 7, 3) := by decide +kernel
theorem dX7_tilt_29 : decode cX7_tilt 29 = .ok (.iload_n 1, 1) := by decide +kernel
theorem dX7_tilt_30 : decode cX7_tilt 30 = .ok (.iaload, 1) := by decide +kernel
theorem dX7_tilt_31 : decode cX7_tilt 31 = .ok (.istore_n 3, 1) := by decide +kernel
theorem dX7_tilt_32 : decode cX7_tilt 32 = .ok (.aload_n 0, 1) := by decide +kernel
theorem dX7_tilt_33 : decode cX7_tilt 33 = .ok (.getfield 7, 3) := by decide +kernel
theorem dX7_tilt_36 : decode cX7_tilt 36 = .ok (.iload_n 1, 1) := by decide +kernel
theorem dX7_tilt_37 : decode cX7_tilt 37 = .ok (.iload_n 2, 1) := by decide +kernel
theorem dX7_tilt_38 : decode cX7_tilt 38 = .ok (.iastore, 1) := by decide +kernel
theorem dX7_tilt_39 : decode cX7_tilt 39 = .ok (.iload_n 3, 1) := by decide +kernel
theorem dX7_tilt_40 : decode cX7_tilt 40 = .ok (.ireturn, 1) := by decide +kernel
theorem dX7_seat_0 : decode cX7_seat 0 = .ok (.iload_n 1, 1) := by decide +kernel
theorem dX7_seat_1 : decode cX7_seat 1 = .ok (.i2l, 1) := by decide +kernel
theorem dX7_seat_2 : decode cX7_seat 2 = .ok (.lconst 0, 1) := by decide +kernel
theorem dX7_seat_3 : decode cX7_seat 3 = .ok (.ldc2_w 164, 3) := by decide +kernel
theorem dX7_seat_6 : decode cX7_seat 6 = .ok (.invokestatic 87, 3) := by decide +kernel
theorem dX7_seat_9 : decode cX7_seat 9 = .ok (.ifCond .ne 6, 3) := by decide +kernel
theorem dX7_seat_12 : decode cX7_seat 12 = .ok (.bipush (-2), 2) := by decide +kernel
theorem dX7_seat_14 : decode cX7_seat 14 = .ok (.ireturn, 1) := by decide +kernel
theorem dX7_seat_15 : decode cX7_seat 15 = .ok (.aload_n 0, 1) := by decide +kernel
theorem dX7_seat_16 : decode cX7_seat 16 = .ok (.getfield 91, 3) := by decide +kernel
theorem dX7_seat_19 : decode cX7_seat 19 = .ok (.ifCond .ne 6, 3) := by decide +kernel
theorem dX7_seat_22 : decode cX7_seat 22 = .ok (.bipush (-3), 2) := by decide +kernel
theorem dX7_seat_24 : decode cX7_seat 24 = .ok (.ireturn, 1) := by decide +kernel
theorem dX7_seat_25 : decode cX7_seat 25 = .ok (.aload_n 0, 1) := by decide +kernel
theorem dX7_seat_26 : decode cX7_seat 26 = .ok (.getfield 152, 3) := by decide +kernel
theorem dX7_seat_29 : decode cX7_seat 29 = .ok (.istore_n 2, 1) := by decide +kernel
theorem dX7_seat_30 : decode cX7_seat 30 = .ok (.aload_n 0, 1) := by decide +kernel
theorem dX7_seat_31 : decode cX7_seat 31 = .ok (.iload_n 1, 1) := by decide +kernel
theorem dX7_seat_32 : decode cX7_seat 32 = .ok (.putfield 152, 3) := by decide +kernel
theorem dX7_seat_35 : decode cX7_seat 35 = .ok (.iload_n 2, 1) := by decide +kernel
theorem dX7_seat_36 : decode cX7_seat 36 = .ok (.ireturn, 1) := by decide +kernel
theorem dX7_wish_0 : decode cX7_wish 0 = .ok (.aload_n 0, 1) := by decide +kernel
theorem dX7_wish_1 : decode cX7_wish 1 = .ok (.iload_n 1, 1) := by decide +kernel
theorem dX7_wish_2 : decode cX7_wish 2 = .ok (.invokevirtual 158, 3) := by decide +kernel
theorem dX7_wish_5 : decode cX7_wish 5 = .ok (.ifCond .eq 5, 3) := by decide +kernel
theorem dX7_wish_8 : decode cX7_wish 8 = .ok (.iconst (-1), 1) := by decide +kernel
theorem dX7_wish_9 : decode cX7_wish 9 = .ok (.ireturn, 1) := by decide +kernel
theorem dX7_wish_10 : decode cX7_wish 10 = .ok (.iload_n 2, 1) := by decide +kernel
theorem dX7_wish_11 : decode cX7_wish 11 = .ok (.i2l, 1) := by decide +kernel
theorem dX7_wish_12 : decode cX7_wish 12 = .ok (.lconst 0, 1) := by decide +kernel
theorem dX7_wish_13 : decode cX7_wish 13 = .ok (.ldc2_w 166, 3) := by decide +kernel
theorem dX7_wish_16 : decode cX7_wish 16 = .ok (.invokestatic 87, 3) := by decide +kernel
theorem dX7_wish_19 : decode cX7_wish 19 = .ok (.ifCond .ne 6, 3) := by decide +kernel
theorem dX7_wish_22 : decode cX7_wish 22 = .ok (.bipush (-2), 2) := by decide +kernel
theorem dX7_wish_24 : decode cX7_wish 24 = .ok (.ireturn, 1) := by decide +kernel
theorem dX7_wish_25 : decode cX7_wish 25 = .ok (.aload_n 0, 1) := by decide +kernel
theorem dX7_wish_26 : decode cX7_wish 26 = .ok (.getfield 25, 3) := by decide +kernel
theorem dX7_wish_29 : decode cX7_wish 29 = .ok (.iload_n 1, 1) := by decide +kernel
theorem dX7_wish_30 : decode cX7_wish 30 = .ok (.iaload, 1) := by decide +kernel
theorem dX7_wish_31 : decode cX7_wish 31 = .ok (.istore_n 3, 1) := by decide +kernel
theorem dX7_wish_32 : decode cX7_wish 32 = .ok (.aload_n 0, 1) := by decide +kernel
theorem dX7_wish_33 : decode cX7_wish 33 = .ok (.getfield 25, 3) := by decide +kernel
theorem dX7_wish_36 : decode cX7_wish 36 = .ok (.iload_n 1, 1) := by decide +kernel
theorem dX7_wish_37 : decode cX7_wish 37 = .ok (.iload_n 2, 1) := by decide +kernel
theorem dX7_wish_38 : decode cX7_wish 38 = .ok (.iastore, 1) := by decide +kernel
theorem dX7_wish_39 : decode cX7_wish 39 = .ok (.iload_n 3, 1) := by decide +kernel
theorem dX7_wish_40 : decode cX7_wish 40 = .ok (.ireturn, 1) := by decide +kernel
theorem dX7_gainOf_0 : decode cX7_gainOf 0 = .ok (.aload_n 0, 1) := by decide +kernel
theorem dX7_gainOf_1 : decode cX7_gainOf 1 = .ok (.getfield 7, 3) := by decide +kernel
theorem dX7_gainOf_4 : decode cX7_gainOf 4 = .ok (.iload_n 2, 1) := by decide +kernel
theorem dX7_gainOf_5 : decode cX7_gainOf 5 = .ok (.iaload, 1) := by decide +kernel
theorem dX7_gainOf_6 : decode cX7_gainOf 6 = .ok (.iconst 1, 1) := by decide +kernel
theorem dX7_gainOf_7 : decode cX7_gainOf 7 = .ok (.iadd, 1) := by decide +kernel
theorem dX7_gainOf_8 : decode cX7_gainOf 8 = .ok (.istore_n 3, 1) := by decide +kernel
theorem dX7_gainOf_9 : decode cX7_gainOf 9 = .ok (.aload_n 0, 1) := by decide +kernel
theorem dX7_gainOf_10 : decode cX7_gainOf 10 = .ok (.getfield 13, 3) := by decide +kernel
theorem dX7_gainOf_13 : decode cX7_gainOf 13 = .ok (.iload_n 1, 1) := by decide +kernel
theorem dX7_gainOf_14 : decode cX7_gainOf 14 = .ok (.iaload, 1) := by decide +kernel
theorem dX7_gainOf_15 : decode cX7_gainOf 15 = .ok (.ifCond .ne 12, 3) := by decide +kernel
theorem dX7_gainOf_18 : decode cX7_gainOf 18 = .ok (.aload_n 0, 1) := by decide +kernel
theorem dX7_gainOf_19 : decode cX7_gainOf 19 = .ok (.getfield 7, 3) := by decide +kernel
theorem dX7_gainOf_22 : decode cX7_gainOf 22 = .ok (.iload_n 2, 1) := by decide +kernel
theorem dX7_gainOf_23 : decode cX7_gainOf 23 = .ok (.iaload, 1) := by decide +kernel
theorem dX7_gainOf_24 : decode cX7_gainOf 24 = .ok (.goto 20, 3) := by decide +kernel
theorem dX7_gainOf_27 : decode cX7_gainOf 27 = .ok (.aload_n 0, 1) := by decide +kernel
theorem dX7_gainOf_28 : decode cX7_gainOf 28 = .ok (.getfield 13, 3) := by decide +kernel
theorem dX7_gainOf_31 : decode cX7_gainOf 31 = .ok (.iload_n 1, 1) := by decide +kernel
theorem dX7_gainOf_32 : decode cX7_gainOf 32 = .ok (.iaload, 1) := by decide +kernel
theorem dX7_gainOf_33 : decode cX7_gainOf 33 = .ok (.iconst 1, 1) := by decide +kernel
theorem dX7_gainOf_34 : decode cX7_gainOf 34 = .ok (.if_icmp .ne 7, 3) := by decide +kernel
theorem dX7_gainOf_37 : decode cX7_gainOf 37 = .ok (.iload_n 3, 1) := by decide +kernel
theorem dX7_gainOf_38 : decode cX7_gainOf 38 = .ok (.goto 6, 3) := by decide +kernel
theorem dX7_gainOf_41 : decode cX7_gainOf 41 = .ok (.iload_n 3, 1) := by decide +kernel
theorem dX7_gainOf_42 : decode cX7_gainOf 42 = .ok (.iconst 2, 1) := by decide +kernel
theorem dX7_gainOf_43 : decode cX7_gainOf 43 = .ok (.idiv, 1) := by decide +kernel
theorem dX7_gainOf_44 : decode cX7_gainOf 44 = .ok (.ireturn, 1) := by decide +kernel
theorem dX7_gain_0 : decode cX7_gain 0 = .ok (.aload_n 0, 1) := by decide +kernel
theorem dX7_gain_1 : decode cX7_gain 1 = .ok (.iload_n 1, 1) := by decide +kernel
theorem dX7_gain_2 : decode cX7_gain 2 = .ok (.invokevirtual 158, 3) := by decide +kernel
theorem dX7_gain_5 : decode cX7_gain 5 = .ok (.ifCond .ne 11, 3) := by decide +kernel
theorem dX7_gain_8 : decode cX7_gain 8 = .ok (.aload_n 0, 1) := by decide +kernel
theorem dX7_gain_9 : decode cX7_gain 9 = .ok (.iload_n 2, 1) := by decide +kernel
theorem dX7_gain_10 : decode cX7_gain 10 = .ok (.invokevirtual 161, 3) := by decide +kernel
theorem dX7_gain_13 : decode cX7_gain 13 = .ok (.ifCond .eq 7, 3) := by decide +kernel
theorem dX7_gain_16 : decode cX7_gain 16 = .ok (.iconst (-1), 1) := by decide +kernel
theorem dX7_gain_17 : decode cX7_gain 17 = .ok (.goto 9, 3) := by decide +kernel
theorem dX7_gain_20 : decode cX7_gain 20 = .ok (.aload_n 0, 1) := by decide +kernel
theorem dX7_gain_21 : decode cX7_gain 21 = .ok (.iload_n 1, 1) := by decide +kernel
theorem dX7_gain_22 : decode cX7_gain 22 = .ok (.iload_n 2, 1) := by decide +kernel
theorem dX7_gain_23 : decode cX7_gain 23 = .ok (.invokevirtual 168, 3) := by decide +kernel
theorem dX7_gain_26 : decode cX7_gain 26 = .ok (.ireturn, 1) := by decide +kernel
theorem dX7_ageBy_0 : decode cX7_ageBy 0 = .ok (.aload_n 0, 1) := by decide +kernel
theorem dX7_ageBy_1 : decode cX7_ageBy 1 = .ok (.getfield 22, 3) := by decide +kernel
theorem dX7_ageBy_4 : decode cX7_ageBy 4 = .ok (.iload_n 1, 1) := by decide +kernel
theorem dX7_ageBy_5 : decode cX7_ageBy 5 = .ok (.iaload, 1) := by decide +kernel
theorem dX7_ageBy_6 : decode cX7_ageBy 6 = .ok (.istore_n 3, 1) := by decide +kernel
theorem dX7_ageBy_7 : decode cX7_ageBy 7 = .ok (.iconst 0, 1) := by decide +kernel
theorem dX7_ageBy_8 : decode cX7_ageBy 8 = .ok (.istore 4, 2) := by decide +kernel
theorem dX7_ageBy_10 : decode cX7_ageBy 10 = .ok (.iload 4, 2) := by decide +kernel
theorem dX7_ageBy_12 : decode cX7_ageBy 12 = .ok (.aload_n 0, 1) := by decide +kernel
theorem dX7_ageBy_13 : decode cX7_ageBy 13 = .ok (.getfield 84, 3) := by decide +kernel
theorem dX7_ageBy_16 : decode cX7_ageBy 16 = .ok (.if_icmp .ge 32, 3) := by decide +kernel
theorem dX7_ageBy_19 : decode cX7_ageBy 19 = .ok (.iload_n 3, 1) := by decide +kernel
theorem dX7_ageBy_20 : decode cX7_ageBy 20 = .ok (.iload_n 2, 1) := by decide +kernel
theorem dX7_ageBy_21 : decode cX7_ageBy 21 = .ok (.iload 4, 2) := by decide +kernel
theorem dX7_ageBy_23 : decode cX7_ageBy 23 = .ok (.invokestatic 171, 3) := by decide +kernel
theorem dX7_ageBy_26 : decode cX7_ageBy 26 = .ok (.ifCond .eq 13, 3) := by decide +kernel
theorem dX7_ageBy_29 : decode cX7_ageBy 29 = .ok (.aload_n 0, 1) := by decide +kernel
theorem dX7_ageBy_30 : decode cX7_ageBy 30 = .ok (.iload_n 1, 1) := by decide +kernel
theorem dX7_ageBy_31 : decode cX7_ageBy 31 = .ok (.iload 4, 2) := by decide +kernel
theorem dX7_ageBy_33 : decode cX7_ageBy 33 = .ok (.invokevirtual 168, 3) := by decide +kernel
theorem dX7_ageBy_36 : decode cX7_ageBy 36 = .ok (.goto 4, 3) := by decide +kernel
theorem dX7_ageBy_39 : decode cX7_ageBy 39 = .ok (.iconst 0, 1) := by decide +kernel
theorem dX7_ageBy_40 : decode cX7_ageBy 40 = .ok (.iadd, 1) := by decide +kernel
theorem dX7_ageBy_41 : decode cX7_ageBy 41 = .ok (.istore_n 3, 1) := by decide +kernel
theorem dX7_ageBy_42 : decode cX7_ageBy 42 = .ok (.iinc 4 1, 3) := by decide +kernel
theorem dX7_ageBy_45 : decode cX7_ageBy 45 = .ok (.goto (-35), 3) := by decide +kernel
theorem dX7_ageBy_48 : decode cX7_ageBy 48 = .ok (.iload_n 3, 1) := by decide +kernel
theorem dX7_ageBy_49 : decode cX7_ageBy 49 = .ok (.ireturn, 1) := by decide +kernel
theorem dX7_age_0 : decode cX7_age 0 = .ok (.aload_n 0, 1) := by decide +kernel
theorem dX7_age_1 : decode cX7_age 1 = .ok (.iload_n 1, 1) := by decide +kernel
theorem dX7_age_2 : decode cX7_age 2 = .ok (.invokevirtual 158, 3) := by decide +kernel
theorem dX7_age_5 : decode cX7_age 5 = .ok (.ifCond .eq 5, 3) := by decide +kernel
theorem dX7_age_8 : decode cX7_age 8 = .ok (.iconst (-1), 1) := by decide +kernel
theorem dX7_age_9 : decode cX7_age 9 = .ok (.ireturn, 1) := by decide +kernel
theorem dX7_age_10 : decode cX7_age 10 = .ok (.aload_n 0, 1) := by decide +kernel
theorem dX7_age_11 : decode cX7_age 11 = .ok (.iload_n 1, 1) := by decide +kernel
theorem dX7_age_12 : decode cX7_age 12 = .ok (.iload_n 2, 1) := by decide +kernel
theorem dX7_age_13 : decode cX7_age 13 = .ok (.invokevirtual 174, 3) := by decide +kernel
theorem dX7_age_16 : decode cX7_age 16 = .ok (.ifCond .eq 8, 3) := by decide +kernel
theorem dX7_age_19 : decode cX7_age 19 = .ok (.bipush (-2), 2) := by decide +kernel
theorem dX7_age_21 : decode cX7_age 21 = .ok (.goto 9, 3) := by decide +kernel
theorem dX7_age_24 : decode cX7_age 24 = .ok (.aload_n 0, 1) := by decide +kernel
theorem dX7_age_25 : decode cX7_age 25 = .ok (.iload_n 1, 1) := by decide +kernel
theorem dX7_age_26 : decode cX7_age 26 = .ok (.iload_n 2, 1) := by decide +kernel
theorem dX7_age_27 : decode cX7_age 27 = .ok (.invokevirtual 177, 3) := by decide +kernel
theorem dX7_age_30 : decode cX7_age 30 = .ok (.ireturn, 1) := by decide +kernel
theorem dX7_aboveOn_0 : decode cX7_aboveOn 0 = .ok (.iconst 0, 1) := by decide +kernel
theorem dX7_aboveOn_1 : decode cX7_aboveOn 1 = .ok (.istore_n 3, 1) := by decide +kernel
theorem dX7_aboveOn_2 : decode cX7_aboveOn 2 = .ok (.iconst 0, 1) := by decide +kernel
theorem dX7_aboveOn_3 : decode cX7_aboveOn 3 = .ok (.istore 4, 2) := by decide +kernel
theorem dX7_aboveOn_5 : decode cX7_aboveOn 5 = .ok (.iload 4, 2) := by decide +kernel
theorem dX7_aboveOn_7 : decode cX7_aboveOn 7 = .ok (.aload_n 0, 1) := by decide +kernel
theorem dX7_aboveOn_8 : decode cX7_aboveOn 8 = .ok (.getfield 91, 3) := by decide +kernel
theorem dX7_aboveOn_11 : decode cX7_aboveOn 11 = .ok (.if_icmp .ge 25, 3) := by decide +kernel
theorem dX7_aboveOn_14 : decode cX7_aboveOn 14 = .ok (.iload_n 3, 1) := by decide +kernel
theorem dX7_aboveOn_15 : decode cX7_aboveOn 15 = .ok (.aload_n 0, 1) := by decide +kernel
theorem dX7_aboveOn_16 : decode cX7_aboveOn 16 = .ok (.getfield 68, 3) := by decide +kernel
theorem dX7_aboveOn_19 : decode cX7_aboveOn 19 = .ok (.iload_n 2, 1) := by decide +kernel
theorem dX7_aboveOn_20 : decode cX7_aboveOn 20 = .ok (.iload 4, 2) := by decide +kernel
theorem dX7_aboveOn_22 : decode cX7_aboveOn 22 = .ok (.iadd, 1) := by decide +kernel
theorem dX7_aboveOn_23 : decode cX7_aboveOn 23 = .ok (.iaload, 1) := by decide +kernel
theorem dX7_aboveOn_24 : decode cX7_aboveOn 24 = .ok (.iload_n 1, 1) := by decide +kernel
theorem dX7_aboveOn_25 : decode cX7_aboveOn 25 = .ok (.ishr, 1) := by decide +kernel
theorem dX7_aboveOn_26 : decode cX7_aboveOn 26 = .ok (.iconst 1, 1) := by decide +kernel
theorem dX7_aboveOn_27 : decode cX7_aboveOn 27 = .ok (.iand, 1) := by decide +kernel
theorem dX7_aboveOn_28 : decode cX7_aboveOn 28 = .ok (.iadd, 1) := by decide +kernel
theorem dX7_aboveOn_29 : decode cX7_aboveOn 29 = .ok (.istore_n 3, 1) := by decide +kernel
theorem dX7_aboveOn_30 : decode cX7_aboveOn 30 = .ok (.iinc 4 1, 3) := by decide +kernel
theorem dX7_aboveOn_33 : decode cX7_aboveOn 33 = .ok (.goto (-28), 3) := by decide +kernel
theorem dX7_aboveOn_36 : decode cX7_aboveOn 36 = .ok (.iload_n 3, 1) := by decide +kernel
theorem dX7_aboveOn_37 : decode cX7_aboveOn 37 = .ok (.ireturn, 1) := by decide +kernel
theorem dX7_wrongIn_0 : decode cX7_wrongIn 0 = .ok (.bipush (-9), 2) := by decide +kernel
theorem dX7_wrongIn_2 : decode cX7_wrongIn 2 = .ok (.istore_n 2, 1) := by decide +kernel
theorem dX7_wrongIn_3 : decode cX7_wrongIn 3 = .ok (.aload_n 0, 1) := by decide +kernel
theorem dX7_wrongIn_4 : decode cX7_wrongIn 4 = .ok (.getfield 84, 3) := by decide +kernel
theorem dX7_wrongIn_7 : decode cX7_wrongIn 7 = .ok (.iconst 1, 1) := by decide +kernel
theorem dX7_wrongIn_8 : decode cX7_wrongIn 8 = .ok (.isub, 1) := by decide +kernel
theorem dX7_wrongIn_9 : decode cX7_wrongIn 9 = .ok (.istore_n 3, 1) := by decide +kernel
theorem dX7_wrongIn_10 : decode cX7_wrongIn 10 = .ok (.iload_n 3, 1) := by decide +kernel
theorem dX7_wrongIn_11 : decode cX7_wrongIn 11 = .ok (.ifCond .lt 28, 3) := by decide +kernel
theorem dX7_wrongIn_14 : decode cX7_wrongIn 14 = .ok (.aload_n 0, 1) := by decide +kernel
theorem dX7_wrongIn_15 : decode cX7_wrongIn 15 = .ok (.iload_n 3, 1) := by decide +kernel
theorem dX7_wrongIn_16 : decode cX7_wrongIn 16 = .ok (.iload_n 1, 1) := by decide +kernel
theorem dX7_wrongIn_17 : decode cX7_wrongIn 17 = .ok (.invokevirtual 180, 3) := by decide +kernel
theorem dX7_wrongIn_20 : decode cX7_wrongIn 20 = .ok (.aload_n 0, 1) := by decide +kernel
theorem dX7_wrongIn_21 : decode cX7_wrongIn 21 = .ok (.getfield 152, 3) := by decide +kernel
theorem dX7_wrongIn_24 : decode cX7_wrongIn 24 = .ok (.if_icmp .le 7, 3) := by decide +kernel
theorem dX7_wrongIn_27 : decode cX7_wrongIn 27 = .ok (.iload_n 3, 1) := by decide +kernel
theorem dX7_wrongIn_28 : decode cX7_wrongIn 28 = .ok (.goto 4, 3) := by decide +kernel
theorem dX7_wrongIn_31 : decode cX7_wrongIn 31 = .ok (.iload_n 2, 1) := by decide +kernel
theorem dX7_wrongIn_32 : decode cX7_wrongIn 32 = .ok (.istore_n 2, 1) := by decide +kernel
theorem dX7_wrongIn_33 : decode cX7_wrongIn 33 = .ok (.iinc 3 (-1), 3) := by decide +kernel
theorem dX7_wrongIn_36 : decode cX7_wrongIn 36 = .ok (.goto (-26), 3) := by decide +kernel
theorem dX7_wrongIn_39 : decode cX7_wrongIn 39 = .ok (.iload_n 2, 1) := by decide +kernel
theorem dX7_wrongIn_40 : decode cX7_wrongIn 40 = .ok (.ireturn, 1) := by decide +kernel
theorem dX7_sitBy_0 : decode cX7_sitBy 0 = .ok (.aload_n 0, 1) := by decide +kernel
theorem dX7_sitBy_1 : decode cX7_sitBy 1 = .ok (.iload_n 1, 1) := by decide +kernel
theorem dX7_sitBy_2 : decode cX7_sitBy 2 = .ok (.invokevirtual 183, 3) := by decide +kernel
theorem dX7_sitBy_5 : decode cX7_sitBy 5 = .ok (.istore_n 3, 1) := by decide +kernel
theorem dX7_sitBy_6 : decode cX7_sitBy 6 = .ok (.iload_n 2, 1) := by decide +kernel
theorem dX7_sitBy_7 : decode cX7_sitBy 7 = .ok (.iconst 1, 1) := by decide +kernel
theorem dX7_sitBy_8 : decode cX7_sitBy 8 = .ok (.if_icmp .ne 5, 3) := by decide +kernel
theorem dX7_sitBy_11 : decode cX7_sitBy 11 = .ok (.iload_n 3, 1) := by decide +kernel
theorem dX7_sitBy_12 : decode cX7_sitBy 12 = .ok (.ireturn, 1) := by decide +kernel
theorem dX7_sitBy_13 : decode cX7_sitBy 13 = .ok (.iload_n 3, 1) := by decide +kernel
theorem dX7_sitBy_14 : decode cX7_sitBy 14 = .ok (.ifCond .lt 8, 3) := by decide +kernel
theorem dX7_sitBy_17 : decode cX7_sitBy 17 = .ok (.bipush (-100), 2) := by decide +kernel
theorem dX7_sitBy_19 : decode cX7_sitBy 19 = .ok (.iload_n 3, 1) := by decide +kernel
theorem dX7_sitBy_20 : decode cX7_sitBy 20 = .ok (.isub, 1) := by decide +kernel
theorem dX7_sitBy_21 : decode cX7_sitBy 21 = .ok (.ireturn, 1) := by decide +kernel
theorem dX7_sitBy_22 : decode cX7_sitBy 22 = .ok (.iload_n 2, 1) := by decide +kernel
theorem dX7_sitBy_23 : decode cX7_sitBy 23 = .ok (.bipush 20, 2) := by decide +kernel
theorem dX7_sitBy_25 : decode cX7_sitBy 25 = .ok (.if_icmp .lt 39, 3) := by decide +kernel
theorem dX7_sitBy_28 : decode cX7_sitBy 28 = .ok (.aload_n 0, 1) := by decide +kernel
theorem dX7_sitBy_29 : decode cX7_sitBy 29 = .ok (.iload_n 2, 1) := by decide +kernel
theorem dX7_sitBy_30 : decode cX7_sitBy 30 = .ok (.bipush 20, 2) := by decide +kernel
theorem dX7_sitBy_32 : decode cX7_sitBy 32 = .ok (.isub, 1) := by decide +kernel
theorem dX7_sitBy_33 : decode cX7_sitBy 33 = .ok (.invokevirtual 158, 3) := by decide +kernel
theorem dX7_sitBy_36 : decode cX7_sitBy 36 = .ok (.ifCond .eq 8, 3) := by decide +kernel
theorem dX7_sitBy_39 : decode cX7_sitBy 39 = .ok (.bipush (-9), 2) := by decide +kernel
theorem dX7_sitBy_41 : decode cX7_sitBy 41 = .ok (.goto 22, 3) := by decide +kernel
theorem dX7_sitBy_44 : decode cX7_sitBy 44 = .ok (.aload_n 0, 1) := by decide +kernel
theorem dX7_sitBy_45 : decode cX7_sitBy 45 = .ok (.iload_n 2, 1) := by decide +kernel
theorem dX7_sitBy_46 : decode cX7_sitBy 46 = .ok (.bipush 20, 2) := by decide +kernel
theorem dX7_sitBy_48 : decode cX7_sitBy 48 = .ok (.isub, 1) := by decide +kernel
theorem dX7_sitBy_49 : decode cX7_sitBy 49 = .ok (.aload_n 0, 1) := by decide +kernel
theorem dX7_sitBy_50 : decode cX7_sitBy 50 = .ok (.getfield 68, 3) := by decide +kernel
theorem dX7_sitBy_53 : decode cX7_sitBy 53 = .ok (.iload_n 1, 1) := by decide +kernel
theorem dX7_sitBy_54 : decode cX7_sitBy 54 = .ok (.iload_n 2, 1) := by decide +kernel
theorem dX7_sitBy_55 : decode cX7_sitBy 55 = .ok (.iadd, 1) := by decide +kernel
theorem dX7_sitBy_56 : decode cX7_sitBy 56 = .ok (.bipush 20, 2) := by decide +kernel
theorem dX7_sitBy_58 : decode cX7_sitBy 58 = .ok (.isub, 1) := by decide +kernel
theorem dX7_sitBy_59 : decode cX7_sitBy 59 = .ok (.iaload, 1) := by decide +kernel
theorem dX7_sitBy_60 : decode cX7_sitBy 60 = .ok (.invokevirtual 177, 3) := by decide +kernel
theorem dX7_sitBy_63 : decode cX7_sitBy 63 = .ok (.ireturn, 1) := by decide +kernel
theorem dX7_sitBy_64 : decode cX7_sitBy 64 = .ok (.iload_n 2, 1) := by decide +kernel
theorem dX7_sitBy_65 : decode cX7_sitBy 65 = .ok (.bipush 10, 2) := by decide +kernel
theorem dX7_sitBy_67 : decode cX7_sitBy 67 = .ok (.if_icmp .lt 29, 3) := by decide +kernel
theorem dX7_sitBy_70 : decode cX7_sitBy 70 = .ok (.aload_n 0, 1) := by decide +kernel
theorem dX7_sitBy_71 : decode cX7_sitBy 71 = .ok (.iload_n 2, 1) := by decide +kernel
theorem dX7_sitBy_72 : decode cX7_sitBy 72 = .ok (.bipush 10, 2) := by decide +kernel
theorem dX7_sitBy_74 : decode cX7_sitBy 74 = .ok (.isub, 1) := by decide +kernel
theorem dX7_sitBy_75 : decode cX7_sitBy 75 = .ok (.invokevirtual 161, 3) := by decide +kernel
theorem dX7_sitBy_78 : decode cX7_sitBy 78 = .ok (.ifCond .eq 8, 3) := by decide +kernel
theorem dX7_sitBy_81 : decode cX7_sitBy 81 = .ok (.bipush (-9), 2) := by decide +kernel
theorem dX7_sitBy_83 : decode cX7_sitBy 83 = .ok (.goto 12, 3) := by decide +kernel
theorem dX7_sitBy_86 : decode cX7_sitBy 86 = .ok (.aload_n 0, 1) := by decide +kernel
theorem dX7_sitBy_87 : decode cX7_sitBy 87 = .ok (.iload_n 2, 1) := by decide +kernel
theorem dX7_sitBy_88 : decode cX7_sitBy 88 = .ok (.bipush 10, 2) := by decide +kernel
theorem dX7_sitBy_90 : decode cX7_sitBy 90 = .ok (.isub, 1) := by decide +kernel
theorem dX7_sitBy_91 : decode cX7_sitBy 91 = .ok (.iload_n 1, 1) := by decide +kernel
theorem dX7_sitBy_92 : decode cX7_sitBy 92 = .ok (.invokevirtual 180, 3) := by decide +kernel
theorem dX7_sitBy_95 : decode cX7_sitBy 95 = .ok (.ireturn, 1) := by decide +kernel
theorem dX7_sitBy_96 : decode cX7_sitBy 96 = .ok (.iconst 0, 1) := by decide +kernel
theorem dX7_sitBy_97 : decode cX7_sitBy 97 = .ok (.istore 4, 2) := by decide +kernel
theorem dX7_sitBy_99 : decode cX7_sitBy 99 = .ok (.iconst 0, 1) := by decide +kernel
theorem dX7_sitBy_100 : decode cX7_sitBy 100 = .ok (.istore 5, 2) := by decide +kernel
theorem dX7_sitBy_102 : decode cX7_sitBy 102 = .ok (.iconst 0, 1) := by decide +kernel
theorem dX7_sitBy_103 : decode cX7_sitBy 103 = .ok (.istore 6, 2) := by decide +kernel
theorem dX7_sitBy_105 : decode cX7_sitBy 105 = .ok (.iload 6, 2) := by decide +kernel
theorem dX7_sitBy_107 : decode cX7_sitBy 107 = .ok (.aload_n 0, 1) := by decide +kernel
theorem dX7_sitBy_108 : decode cX7_sitBy 108 = .ok (.getfield 91, 3) := by decide +kernel
theorem dX7_sitBy_111 : decode cX7_sitBy 111 = .ok (.if_icmp .ge 80, 3) := by decide +kernel
theorem dX7_sitBy_114 : decode cX7_sitBy 114 = .ok (.aload_n 0, 1) := by decide +kernel
theorem dX7_sitBy_115 : decode cX7_sitBy 115 = .ok (.iload 6, 2) := by decide +kernel
theorem dX7_sitBy_117 : decode cX7_sitBy 117 = .ok (.aload_n 0, 1) := by decide +kernel
theorem dX7_sitBy_118 : decode cX7_sitBy 118 = .ok (.getfield 68, 3) := by decide +kernel
theorem dX7_sitBy_121 : decode cX7_sitBy 121 = .ok (.iload_n 1, 1) := by decide +kernel
theorem dX7_sitBy_122 : decode cX7_sitBy 122 = .ok (.iload 6, 2) := by decide +kernel
theorem dX7_sitBy_124 : decode cX7_sitBy 124 = .ok (.iadd, 1) := by decide +kernel
theorem dX7_sitBy_125 : decode cX7_sitBy 125 = .ok (.iaload, 1) := by decide +kernel
theorem dX7_sitBy_126 : decode cX7_sitBy 126 = .ok (.invokevirtual 177, 3) := by decide +kernel
theorem dX7_sitBy_129 : decode cX7_sitBy 129 = .ok (.istore 7, 2) := by decide +kernel
theorem dX7_sitBy_131 : decode cX7_sitBy 131 = .ok (.iload 4, 2) := by decide +kernel
theorem dX7_sitBy_133 : decode cX7_sitBy 133 = .ok (.iload 7, 2) := by decide +kernel
theorem dX7_sitBy_135 : decode cX7_sitBy 135 = .ok (.aload_n 0, 1) := by decide +kernel
theorem dX7_sitBy_136 : decode cX7_sitBy 136 = .ok (.getfield 25, 3) := by decide +kernel
theorem dX7_sitBy_139 : decode cX7_sitBy 139 = .ok (.iload 6, 2) := by decide +kernel
theorem dX7_sitBy_141 : decode cX7_sitBy 141 = .ok (.iaload, 1) := by decide +kernel
theorem dX7_sitBy_142 : decode cX7_sitBy 142 = .ok (.if_icmp .ne 10, 3) := by decide +kernel
theorem dX7_sitBy_145 : decode cX7_sitBy 145 = .ok (.iconst 1, 1) := by decide +kernel
theorem dX7_sitBy_146 : decode cX7_sitBy 146 = .ok (.iload 6, 2) := by decide +kernel
theorem dX7_sitBy_148 : decode cX7_sitBy 148 = .ok (.ishl, 1) := by decide +kernel
theorem dX7_sitBy_149 : decode cX7_sitBy 149 = .ok (.goto 4, 3) := by decide +kernel
theorem dX7_sitBy_152 : decode cX7_sitBy 152 = .ok (.iconst 0, 1) := by decide +kernel
theorem dX7_sitBy_153 : decode cX7_sitBy 153 = .ok (.ior, 1) := by decide +kernel
theorem dX7_sitBy_154 : decode cX7_sitBy 154 = .ok (.istore 4, 2) := by decide +kernel
theorem dX7_sitBy_156 : decode cX7_sitBy 156 = .ok (.iload 7, 2) := by decide +kernel
theorem dX7_sitBy_158 : decode cX7_sitBy 158 = .ok (.aload_n 0, 1) := by decide +kernel
theorem dX7_sitBy_159 : decode cX7_sitBy 159 = .ok (.iload 5, 2) := by decide +kernel
theorem dX7_sitBy_161 : decode cX7_sitBy 161 = .ok (.aload_n 0, 1) := by decide +kernel
theorem dX7_sitBy_162 : decode cX7_sitBy 162 = .ok (.getfield 68, 3) := by decide +kernel
theorem dX7_sitBy_165 : decode cX7_sitBy 165 = .ok (.iload_n 1, 1) := by decide +kernel
theorem dX7_sitBy_166 : decode cX7_sitBy 166 = .ok (.iload 5, 2) := by decide +kernel
theorem dX7_sitBy_168 : decode cX7_sitBy 168 = .ok (.iadd, 1) := by decide +kernel
theorem dX7_sitBy_169 : decode cX7_sitBy 169 = .ok (.iaload, 1) := by decide +kernel
theorem dX7_sitBy_170 : decode cX7_sitBy 170 = .ok (.invokevirtual 177, 3) := by decide +kernel
theorem dX7_sitBy_173 : decode cX7_sitBy 173 = .ok (.if_icmp .le 8, 3) := by decide +kernel
theorem dX7_sitBy_176 : decode cX7_sitBy 176 = .ok (.iload 6, 2) := by decide +kernel
theorem dX7_sitBy_178 : decode cX7_sitBy 178 = .ok (.goto 5, 3) := by decide +kernel
theorem dX7_sitBy_181 : decode cX7_sitBy 181 = .ok (.iload 5, 2) := by decide +kernel
theorem dX7_sitBy_183 : decode cX7_sitBy 183 = .ok (.istore 5, 2) := by decide +kernel
theorem dX7_sitBy_185 : decode cX7_sitBy 185 = .ok (.iinc 6 1, 3) := by decide +kernel
theorem dX7_sitBy_188 : decode cX7_sitBy 188 = .ok (.goto (-83), 3) := by decide +kernel
theorem dX7_sitBy_191 : decode cX7_sitBy 191 = .ok (.iload_n 2, 1) := by decide +kernel
theorem dX7_sitBy_192 : decode cX7_sitBy 192 = .ok (.ifCond .ne 11, 3) := by decide +kernel
theorem dX7_sitBy_195 : decode cX7_sitBy 195 = .ok (.iload 4, 2) := by decide +kernel
theorem dX7_sitBy_197 : decode cX7_sitBy 197 = .ok (.invokestatic 186, 3) := by decide +kernel
theorem dX7_sitBy_200 : decode cX7_sitBy 200 = .ok (.goto 15, 3) := by decide +kernel
theorem dX7_sitBy_203 : decode cX7_sitBy 203 = .ok (.iload_n 2, 1) := by decide +kernel
theorem dX7_sitBy_204 : decode cX7_sitBy 204 = .ok (.iconst 2, 1) := by decide +kernel
theorem dX7_sitBy_205 : decode cX7_sitBy 205 = .ok (.if_icmp .ne 8, 3) := by decide +kernel
theorem dX7_sitBy_208 : decode cX7_sitBy 208 = .ok (.iload 4, 2) := by decide +kernel
theorem dX7_sitBy_210 : decode cX7_sitBy 210 = .ok (.goto 5, 3) := by decide +kernel
theorem dX7_sitBy_213 : decode cX7_sitBy 213 = .ok (.iload 5, 2) := by decide +kernel
theorem dX7_sitBy_215 : decode cX7_sitBy 215 = .ok (.ireturn, 1) := by decide +kernel
theorem dX7_sit_0 : decode cX7_sit 0 = .ok (.iload_n 1, 1) := by decide +kernel
theorem dX7_sit_1 : decode cX7_sit 1 = .ok (.invokestatic 136, 3) := by decide +kernel
theorem dX7_sit_4 : decode cX7_sit 4 = .ok (.ifCond .eq 9, 3) := by decide +kernel
theorem dX7_sit_7 : decode cX7_sit 7 = .ok (.aload_n 0, 1) := by decide +kernel
theorem dX7_sit_8 : decode cX7_sit 8 = .ok (.iconst (-1), 1) := by decide +kernel
theorem dX7_sit_9 : decode cX7_sit 9 = .ok (.invokevirtual 140, 3) := by decide +kernel
theorem dX7_sit_12 : decode cX7_sit 12 = .ok (.ireturn, 1) := by decide +kernel
theorem dX7_sit_13 : decode cX7_sit 13 = .ok (.iload 5, 2) := by decide +kernel
theorem dX7_sit_15 : decode cX7_sit 15 = .ok (.i2l, 1) := by decide +kernel
theorem dX7_sit_16 : decode cX7_sit 16 = .ok (.lconst 0, 1) := by decide +kernel
theorem dX7_sit_17 : decode cX7_sit 17 = .ok (.ldc2_w 164, 3) := by decide +kernel
theorem dX7_sit_20 : decode cX7_sit 20 = .ok (.invokestatic 87, 3) := by decide +kernel
theorem dX7_sit_23 : decode cX7_sit 23 = .ok (.ifCond .ne 33, 3) := by decide +kernel
theorem dX7_sit_26 : decode cX7_sit 26 = .ok (.iload 5, 2) := by decide +kernel
theorem dX7_sit_28 : decode cX7_sit 28 = .ok (.i2l, 1) := by decide +kernel
theorem dX7_sit_29 : decode cX7_sit 29 = .ok (.ldc2_w 189, 3) := by decide +kernel
theorem dX7_sit_32 : decode cX7_sit 32 = .ok (.ldc2_w 191, 3) := by decide +kernel
theorem dX7_sit_35 : decode cX7_sit 35 = .ok (.invokestatic 87, 3) := by decide +kernel
theorem dX7_sit_38 : decode cX7_sit 38 = .ok (.ifCond .ne 18, 3) := by decide +kernel
theorem dX7_sit_41 : decode cX7_sit 41 = .ok (.iload 5, 2) := by decide +kernel
theorem dX7_sit_43 : decode cX7_sit 43 = .ok (.i2l, 1) := by decide +kernel
theorem dX7_sit_44 : decode cX7_sit 44 = .ok (.ldc2_w 193, 3) := by decide +kernel
theorem dX7_sit_47 : decode cX7_sit 47 = .ok (.ldc2_w 195, 3) := by decide +kernel
theorem dX7_sit_50 : decode cX7_sit 50 = .ok (.invokestatic 87, 3) := by decide +kernel
theorem dX7_sit_53 : decode cX7_sit 53 = .ok (.ifCond .eq 7, 3) := by decide +kernel
theorem dX7_sit_56 : decode cX7_sit 56 = .ok (.iconst 1, 1) := by decide +kernel
theorem dX7_sit_57 : decode cX7_sit 57 = .ok (.goto 4, 3) := by decide +kernel
theorem dX7_sit_60 : decode cX7_sit 60 = .ok (.iconst 0, 1) := by decide +kernel
theorem dX7_sit_61 : decode cX7_sit 61 = .ok (.istore 6, 2) := by decide +kernel
theorem dX7_sit_63 : decode cX7_sit 63 = .ok (.iload_n 2, 1) := by decide +kernel
theorem dX7_sit_64 : decode cX7_sit 64 = .ok (.i2l, 1) := by decide +kernel
theorem dX7_sit_65 : decode cX7_sit 65 = .ok (.lconst 0, 1) := by decide +kernel
theorem dX7_sit_66 : decode cX7_sit 66 = .ok (.ldc2_w 143, 3) := by decide +kernel
theorem dX7_sit_69 : decode cX7_sit 69 = .ok (.invokestatic 87, 3) := by decide +kernel
theorem dX7_sit_72 : decode cX7_sit 72 = .ok (.ifCond .eq 8, 3) := by decide +kernel
theorem dX7_sit_75 : decode cX7_sit 75 = .ok (.iload 6, 2) := by decide +kernel
theorem dX7_sit_77 : decode cX7_sit 77 = .ok (.ifCond .ne 10, 3) := by decide +kernel
theorem dX7_sit_80 : decode cX7_sit 80 = .ok (.aload_n 0, 1) := by decide +kernel
theorem dX7_sit_81 : decode cX7_sit 81 = .ok (.bipush (-2), 2) := by decide +kernel
theorem dX7_sit_83 : decode cX7_sit 83 = .ok (.invokevirtual 140, 3) := by decide +kernel
theorem dX7_sit_86 : decode cX7_sit 86 = .ok (.ireturn, 1) := by decide +kernel
theorem dX7_sit_87 : decode cX7_sit 87 = .ok (.aload_n 0, 1) := by decide +kernel
theorem dX7_sit_88 : decode cX7_sit 88 = .ok (.getfield 91, 3) := by decide +kernel
theorem dX7_sit_91 : decode cX7_sit 91 = .ok (.ifCond .ne 10, 3) := by decide +kernel
theorem dX7_sit_94 : decode cX7_sit 94 = .ok (.aload_n 0, 1) := by decide +kernel
theorem dX7_sit_95 : decode cX7_sit 95 = .ok (.bipush (-3), 2) := by decide +kernel
theorem dX7_sit_97 : decode cX7_sit 97 = .ok (.invokevirtual 140, 3) := by decide +kernel
theorem dX7_sit_100 : decode cX7_sit 100 = .ok (.ireturn, 1) := by decide +kernel
theorem dX7_sit_101 : decode cX7_sit 101 = .ok (.aload_n 0, 1) := by decide +kernel
theorem dX7_sit_102 : decode cX7_sit 102 = .ok (.iload_n 1, 1) := by decide +kernel
theorem dX7_sit_103 : decode cX7_sit 103 = .ok (.iload_n 2, 1) := by decide +kernel
theorem dX7_sit_104 : decode cX7_sit 104 = .ok (.iload_n 3, 1) := by decide +kernel
theorem dX7_sit_105 : decode cX7_sit 105 = .ok (.iload 4, 2) := by decide +kernel
theorem dX7_sit_107 : decode cX7_sit 107 = .ok (.i2l, 1) := by decide +kernel
theorem dX7_sit_108 : decode cX7_sit 108 = .ok (.invokevirtual 145, 3) := by decide +kernel
theorem dX7_sit_111 : decode cX7_sit 111 = .ok (.istore 7, 2) := by decide +kernel
theorem dX7_sit_113 : decode cX7_sit 113 = .ok (.iload 7, 2) := by decide +kernel
theorem dX7_sit_115 : decode cX7_sit 115 = .ok (.ifCond .ge 6, 3) := by decide +kernel
theorem dX7_sit_118 : decode cX7_sit 118 = .ok (.iload 7, 2) := by decide +kernel
theorem dX7_sit_120 : decode cX7_sit 120 = .ok (.ireturn, 1) := by decide +kernel
theorem dX7_sit_121 : decode cX7_sit 121 = .ok (.iload 4, 2) := by decide +kernel
theorem dX7_sit_123 : decode cX7_sit 123 = .ok (.aload_n 0, 1) := by decide +kernel
theorem dX7_sit_124 : decode cX7_sit 124 = .ok (.getfield 91, 3) := by decide +kernel
theorem dX7_sit_127 : decode cX7_sit 127 = .ok (.if_icmp .eq 10, 3) := by decide +kernel
theorem dX7_sit_130 : decode cX7_sit 130 = .ok (.aload_n 0, 1) := by decide +kernel
theorem dX7_sit_131 : decode cX7_sit 131 = .ok (.bipush (-2), 2) := by decide +kernel
theorem dX7_sit_133 : decode cX7_sit 133 = .ok (.invokevirtual 140, 3) := by decide +kernel
theorem dX7_sit_136 : decode cX7_sit 136 = .ok (.ireturn, 1) := by decide +kernel
theorem dX7_sit_137 : decode cX7_sit 137 = .ok (.iconst 0, 1) := by decide +kernel
theorem dX7_sit_138 : decode cX7_sit 138 = .ok (.istore 8, 2) := by decide +kernel
theorem dX7_sit_140 : decode cX7_sit 140 = .ok (.iload 8, 2) := by decide +kernel
theorem dX7_sit_142 : decode cX7_sit 142 = .ok (.iload 4, 2) := by decide +kernel
theorem dX7_sit_144 : decode cX7_sit 144 = .ok (.if_icmp .ge 39, 3) := by decide +kernel
theorem dX7_sit_147 : decode cX7_sit 147 = .ok (.aload_n 0, 1) := by decide +kernel
theorem dX7_sit_148 : decode cX7_sit 148 = .ok (.iload 8, 2) := by decide +kernel
theorem dX7_sit_150 : decode cX7_sit 150 = .ok (.aload_n 0, 1) := by decide +kernel
theorem dX7_sit_151 : decode cX7_sit 151 = .ok (.getfield 68, 3) := by decide +kernel
theorem dX7_sit_154 : decode cX7_sit 154 = .ok (.bipush 60, 2) := by decide +kernel
theorem dX7_sit_156 : decode cX7_sit 156 = .ok (.iload_n 1, 1) := by decide +kernel
theorem dX7_sit_157 : decode cX7_sit 157 = .ok (.imul, 1) := by decide +kernel
theorem dX7_sit_158 : decode cX7_sit 158 = .ok (.iload_n 3, 1) := by decide +kernel
theorem dX7_sit_159 : decode cX7_sit 159 = .ok (.iadd, 1) := by decide +kernel
theorem dX7_sit_160 : decode cX7_sit 160 = .ok (.iload 8, 2) := by decide +kernel
theorem dX7_sit_162 : decode cX7_sit 162 = .ok (.iadd, 1) := by decide +kernel
theorem dX7_sit_163 : decode cX7_sit 163 = .ok (.iaload, 1) := by decide +kernel
theorem dX7_sit_164 : decode cX7_sit 164 = .ok (.invokevirtual 174, 3) := by decide +kernel
theorem dX7_sit_167 : decode cX7_sit 167 = .ok (.ifCond .eq 10, 3) := by decide +kernel
theorem dX7_sit_170 : decode cX7_sit 170 = .ok (.aload_n 0, 1) := by decide +kernel
theorem dX7_sit_171 : decode cX7_sit 171 = .ok (.bipush (-2), 2) := by decide +kernel
theorem dX7_sit_173 : decode cX7_sit 173 = .ok (.invokevirtual 140, 3) := by decide +kernel
theorem dX7_sit_176 : decode cX7_sit 176 = .ok (.ireturn, 1) := by decide +kernel
theorem dX7_sit_177 : decode cX7_sit 177 = .ok (.iinc 8 1, 3) := by decide +kernel
theorem dX7_sit_180 : decode cX7_sit 180 = .ok (.goto (-40), 3) := by decide +kernel
theorem dX7_sit_183 : decode cX7_sit 183 = .ok (.aload_n 0, 1) := by decide +kernel
