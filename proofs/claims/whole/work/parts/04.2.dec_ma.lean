theorem dX8_init_0 : decode cX8_init 0 = .ok (.aload_n 0, 1) := by decide +kernel
theorem dX8_init_1 : decode cX8_init 1 = .ok (.invokespecial 1, 3) := by decide +kernel
theorem dX8_init_4 : decode cX8_init 4 = .ok (.aload_n 0, 1) := by decide +kernel
theorem dX8_init_5 : decode cX8_init 5 = .ok (.iconst 3, 1) := by decide +kernel
theorem dX8_init_6 : decode cX8_init 6 = .ok (.newarray .int, 2) := by decide +kernel
theorem dX8_init_8 : decode cX8_init 8 = .ok (.putfield 7, 3) := by decide +kernel
theorem dX8_init_11 : decode cX8_init 11 = .ok (.aload_n 0, 1) := by decide +kernel
theorem dX8_init_12 : decode cX8_init 12 = .ok (.bipush 30, 2) := by decide +kernel
theorem dX8_init_14 : decode cX8_init 14 = .ok (.newarray .int, 2) := by decide +kernel
theorem dX8_init_16 : decode cX8_init 16 = .ok (.putfield 13, 3) := by decide +kernel
theorem dX8_init_19 : decode cX8_init 19 = .ok (.aload_n 0, 1) := by decide +kernel
theorem dX8_init_20 : decode cX8_init 20 = .ok (.iconst 3, 1) := by decide +kernel
theorem dX8_init_21 : decode cX8_init 21 = .ok (.newarray .int, 2) := by decide +kernel
theorem dX8_init_23 : decode cX8_init 23 = .ok (.putfield 16, 3) := by decide +kernel
theorem dX8_init_26 : decode cX8_init 26 = .ok (.aload_n 0, 1) := by decide +kernel
theorem dX8_init_27 : decode cX8_init 27 = .ok (.iconst 3, 1) := by decide +kernel
theorem dX8_init_28 : decode cX8_init 28 = .ok (.newarray .int, 2) := by decide +kernel
theorem dX8_init_30 : decode cX8_init 30 = .ok (.putfield 19, 3) := by decide +kernel
theorem dX8_init_33 : decode cX8_init 33 = .ok (.aload_n 0, 1) := by decide +kernel
theorem dX8_init_34 : decode cX8_init 34 = .ok (.iconst 3, 1) := by decide +kernel
theorem dX8_init_35 : decode cX8_init 35 = .ok (.newarray .int, 2) := by decide +kernel
theorem dX8_init_37 : decode cX8_init 37 = .ok (.putfield 22, 3) := by decide +kernel
theorem dX8_init_40 : decode cX8_init 40 = .ok (.aload_n 0, 1) := by decide +kernel
theorem dX8_init_41 : decode cX8_init 41 = .ok (.iconst 3, 1) := by decide +kernel
theorem dX8_init_42 : decode cX8_init 42 = .ok (.newarray .int, 2) := by decide +kernel
theorem dX8_init_44 : decode cX8_init 44 = .ok (.putfield 25, 3) := by decide +kernel
theorem dX8_init_47 : decode cX8_init 47 = .ok (.aload_n 0, 1) := by decide +kernel
theorem dX8_init_48 : decode cX8_init 48 = .ok (.iconst 3, 1) := by decide +kernel
theorem dX8_init_49 : decode cX8_init 49 = .ok (.newarray .int, 2) := by decide +kernel
theorem dX8_init_51 : decode cX8_init 51 = .ok (.putfield 28, 3) := by decide +kernel
theorem dX8_init_54 : decode cX8_init 54 = .ok (.aload_n 0, 1) := by decide +kernel
theorem dX8_init_55 : decode cX8_init 55 = .ok (.iconst 4, 1) := by decide +kernel
theorem dX8_init_56 : decode cX8_init 56 = .ok (.newarray .int, 2) := by decide +kernel
theorem dX8_init_58 : decode cX8_init 58 = .ok (.putfield 31, 3) := by decide +kernel
theorem dX8_init_61 : decode cX8_init 61 = .ok (.aload_n 0, 1) := by decide +kernel
theorem dX8_init_62 : decode cX8_init 62 = .ok (.bipush 32, 2) := by decide +kernel
theorem dX8_init_64 : decode cX8_init 64 = .ok (.newarray .int, 2) := by decide +kernel
theorem dX8_init_66 : decode cX8_init 66 = .ok (.putfield 34, 3) := by decide +kernel
theorem dX8_init_69 : decode cX8_init 69 = .ok (.aload_n 0, 1) := by decide +kernel
theorem dX8_init_70 : decode cX8_init 70 = .ok (.bipush 32, 2) := by decide +kernel
theorem dX8_init_72 : decode cX8_init 72 = .ok (.newarray .int, 2) := by decide +kernel
theorem dX8_init_74 : decode cX8_init 74 = .ok (.putfield 37, 3) := by decide +kernel
theorem dX8_init_77 : decode cX8_init 77 = .ok (.aload_n 0, 1) := by decide +kernel
theorem dX8_init_78 : decode cX8_init 78 = .ok (.iconst 4, 1) := by decide +kernel
theorem dX8_init_79 : decode cX8_init 79 = .ok (.newarray .int, 2) := by decide +kernel
theorem dX8_init_81 : decode cX8_init 81 = .ok (.putfield 40, 3) := by decide +kernel
theorem dX8_init_84 : decode cX8_init 84 = .ok (.aload_n 0, 1) := by decide +kernel
theorem dX8_init_85 : decode cX8_init 85 = .ok (.iconst 4, 1) := by decide +kernel
theorem dX8_init_86 : decode cX8_init 86 = .ok (.newarray .int, 2) := by decide +kernel
theorem dX8_init_88 : decode cX8_init 88 = .ok (.putfield 43, 3) := by decide +kernel
theorem dX8_init_91 : decode cX8_init 91 = .ok (.aload_n 0, 1) := by decide +kernel
theorem dX8_init_92 : decode cX8_init 92 = .ok (.sipush 300, 3) := by decide +kernel
theorem dX8_init_95 : decode cX8_init 95 = .ok (.newarray .int, 2) := by decide +kernel
theorem dX8_init_97 : decode cX8_init 97 = .ok (.putfield 46, 3) := by decide +kernel
theorem dX8_init_100 : decode cX8_init 100 = .ok (.aload_n 0, 1) := by decide +kernel
theorem dX8_init_101 : decode cX8_init 101 = .ok (.iconst (-1), 1) := by decide +kernel
theorem dX8_init_102 : decode cX8_init 102 = .ok (.putfield 49, 3) := by decide +kernel
theorem dX8_init_105 : decode cX8_init 105 = .ok (.aload_n 0, 1) := by decide +kernel
theorem dX8_init_106 : decode cX8_init 106 = .ok (.iconst 4, 1) := by decide +kernel
theorem dX8_init_107 : decode cX8_init 107 = .ok (.newarray .int, 2) := by decide +kernel
theorem dX8_init_109 : decode cX8_init 109 = .ok (.putfield 53, 3) := by decide +kernel
theorem dX8_init_112 : decode cX8_init 112 = .ok (.aload_n 0, 1) := by decide +kernel
theorem dX8_init_113 : decode cX8_init 113 = .ok (.bipush 120, 2) := by decide +kernel
theorem dX8_init_115 : decode cX8_init 115 = .ok (.newarray .int, 2) := by decide +kernel
theorem dX8_init_117 : decode cX8_init 117 = .ok (.putfield 56, 3) := by decide +kernel
theorem dX8_init_120 : decode cX8_init 120 = .ok (.aload_n 0, 1) := by decide +kernel
theorem dX8_init_121 : decode cX8_init 121 = .ok (.sipush 310, 3) := by decide +kernel
theorem dX8_init_124 : decode cX8_init 124 = .ok (.newarray .int, 2) := by decide +kernel
theorem dX8_init_126 : decode cX8_init 126 = .ok (.putfield 59, 3) := by decide +kernel
theorem dX8_init_129 : decode cX8_init 129 = .ok (.aload_n 0, 1) := by decide +kernel
theorem dX8_init_130 : decode cX8_init 130 = .ok (.sipush 31200, 3) := by decide +kernel
theorem dX8_init_133 : decode cX8_init 133 = .ok (.newarray .int, 2) := by decide +kernel
theorem dX8_init_135 : decode cX8_init 135 = .ok (.putfield 62, 3) := by decide +kernel
theorem dX8_init_138 : decode cX8_init 138 = .ok (.aload_n 0, 1) := by decide +kernel
theorem dX8_init_139 : decode cX8_init 139 = .ok (.bipush 24, 2) := by decide +kernel
theorem dX8_init_141 : decode cX8_init 141 = .ok (.newarray .int, 2) := by decide +kernel
theorem dX8_init_143 : decode cX8_init 143 = .ok (.putfield 65, 3) := by decide +kernel
theorem dX8_init_146 : decode cX8_init 146 = .ok (.aload_n 0, 1) := by decide +kernel
theorem dX8_init_147 : decode cX8_init 147 = .ok (.bipush 24, 2) := by decide +kernel
theorem dX8_init_149 : decode cX8_init 149 = .ok (.newarray .int, 2) := by decide +kernel
theorem dX8_init_151 : decode cX8_init 151 = .ok (.putfield 68, 3) := by decide +kernel
theorem dX8_init_154 : decode cX8_init 154 = .ok (.aload_n 0, 1) := by decide +kernel
theorem dX8_init_155 : decode cX8_init 155 = .ok (.bipush 24, 2) := by decide +kernel
theorem dX8_init_157 : decode cX8_init 157 = .ok (.newarray .boolean, 2) := by decide +kernel
theorem dX8_init_159 : decode cX8_init 159 = .ok (.putfield 71, 3) := by decide +kernel
theorem dX8_init_162 : decode cX8_init 162 = .ok (.aload_n 0, 1) := by decide +kernel
theorem dX8_init_163 : decode cX8_init 163 = .ok (.iconst 4, 1) := by decide +kernel
theorem dX8_init_164 : decode cX8_init 164 = .ok (.newarray .int, 2) := by decide +kernel
theorem dX8_init_166 : decode cX8_init 166 = .ok (.putfield 75, 3) := by decide +kernel
theorem dX8_init_169 : decode cX8_init 169 = .ok (.aload_n 0, 1) := by decide +kernel
theorem dX8_init_170 : decode cX8_init 170 = .ok (.iconst 4, 1) := by decide +kernel
theorem dX8_init_171 : decode cX8_init 171 = .ok (.newarray .int, 2) := by decide +kernel
theorem dX8_init_173 : decode cX8_init 173 = .ok (.putfield 78, 3) := by decide +kernel
theorem dX8_init_176 : decode cX8_init 176 = .ok (.aload_n 0, 1) := by decide +kernel
theorem dX8_init_177 : decode cX8_init 177 = .ok (.bipush 10, 2) := by decide +kernel
theorem dX8_init_179 : decode cX8_init 179 = .ok (.newarray .int, 2) := by decide +kernel
theorem dX8_init_181 : decode cX8_init 181 = .ok (.putfield 81, 3) := by decide +kernel
theorem dX8_init_184 : decode cX8_init 184 = .ok (.aload_n 0, 1) := by decide +kernel
theorem dX8_init_185 : decode cX8_init 185 = .ok (.bipush 10, 2) := by decide +kernel
theorem dX8_init_187 : decode cX8_init 187 = .ok (.newarray .int, 2) := by decide +kernel
theorem dX8_init_189 : decode cX8_init 189 = .ok (.putfield 84, 3) := by decide +kernel
theorem dX8_init_192 : decode cX8_init 192 = .ok (.aload_n 0, 1) := by decide +kernel
theorem dX8_init_193 : decode cX8_init 193 = .ok (.bipush 8, 2) := by decide +kernel
theorem dX8_init_195 : decode cX8_init 195 = .ok (.newarray .int, 2) := by decide +kernel
theorem dX8_init_197 : decode cX8_init 197 = .ok (.putfield 87, 3) := by decide +kernel
theorem dX8_init_200 : decode cX8_init 200 = .ok (.aload_n 0, 1) := by decide +kernel
theorem dX8_init_201 : decode cX8_init 201 = .ok (.bipush 8, 2) := by decide +kernel
theorem dX8_init_203 : decode cX8_init 203 = .ok (.newarray .int, 2) := by decide +kernel
theorem dX8_init_205 : decode cX8_init 205 = .ok (.putfield 90, 3) := by decide +kernel
theorem dX8_init_208 : decode cX8_init 208 = .ok (.aload_n 0, 1) := by decide +kernel
theorem dX8_init_209 : decode cX8_init 209 = .ok (.iconst 4, 1) := by decide +kernel
theorem dX8_init_210 : decode cX8_init 210 = .ok (.newarray .long, 2) := by decide +kernel
theorem dX8_init_212 : decode cX8_init 212 = .ok (.putfield 93, 3) := by decide +kernel
theorem dX8_init_215 : decode cX8_init 215 = .ok (.aload_n 0, 1) := by decide +kernel
theorem dX8_init_216 : decode cX8_init 216 = .ok (.bipush 32, 2) := by decide +kernel
theorem dX8_init_218 : decode cX8_init 218 = .ok (.newarray .int, 2) := by decide +kernel
theorem dX8_init_220 : decode cX8_init 220 = .ok (.putfield 97, 3) := by decide +kernel
theorem dX8_init_223 : decode cX8_init 223 = .ok (.aload_n 0, 1) := by decide +kernel
theorem dX8_init_224 : decode cX8_init 224 = .ok (.sipush 200, 3) := by decide +kernel
theorem dX8_init_227 : decode cX8_init 227 = .ok (.newarray .int, 2) := by decide +kernel
theorem dX8_init_229 : decode cX8_init 229 = .ok (.putfield 100, 3) := by decide +kernel
theorem dX8_init_232 : decode cX8_init 232 = .ok (.aload_n 0, 1) := by decide +kernel
theorem dX8_init_233 : decode cX8_init 233 = .ok (.iconst 2, 1) := by decide +kernel
theorem dX8_init_234 : decode cX8_init 234 = .ok (.newarray .boolean, 2) := by decide +kernel
theorem dX8_init_236 : decode cX8_init 236 = .ok (.putfield 103, 3) := by decide +kernel
theorem dX8_init_239 : decode cX8_init 239 = .ok (.aload_n 0, 1) := by decide +kernel
theorem dX8_init_240 : decode cX8_init 240 = .ok (.iconst 0, 1) := by decide +kernel
theorem dX8_init_241 : decode cX8_init 241 = .ok (.putfield 106, 3) := by decide +kernel
theorem dX8_init_244 : decode cX8_init 244 = .ok (.return_, 1) := by decide +kernel
theorem dX8_within_0 : decode cX8_within 0 = .ok (.lload_n 0, 1) := by decide +kernel
theorem dX8_within_1 : decode cX8_within 1 = .ok (.lload_n 2, 1) := by decide +kernel
theorem dX8_within_2 : decode cX8_within 2 = .ok (.lcmp, 1) := by decide +kernel
theorem dX8_within_3 : decode cX8_within 3 = .ok (.ifCond .lt 14, 3) := by decide +kernel
theorem dX8_within_6 : decode cX8_within 6 = .ok (.lload_n 0, 1) := by decide +kernel
theorem dX8_within_7 : decode cX8_within 7 = .ok (.lload 4, 2) := by decide +kernel
theorem dX8_within_9 : decode cX8_within 9 = .ok (.lcmp, 1) := by decide +kernel
theorem dX8_within_10 : decode cX8_within 10 = .ok (.ifCond .gt 7, 3) := by decide +kernel
theorem dX8_within_13 : decode cX8_within 13 = .ok (.iconst 1, 1) := by decide +kernel
theorem dX8_within_14 : decode cX8_within 14 = .ok (.goto 4, 3) := by decide +kernel
theorem dX8_within_17 : decode cX8_within 17 = .ok (.iconst 0, 1) := by decide +kernel
theorem dX8_within_18 : decode cX8_within 18 = .ok (.ireturn, 1) := by decide +kernel
theorem dX8_has_0 : decode cX8_has 0 = .ok (.iload_n 0, 1) := by decide +kernel
theorem dX8_has_1 : decode cX8_has 1 = .ok (.iload_n 1, 1) := by decide +kernel
theorem dX8_has_2 : decode cX8_has 2 = .ok (.ishr, 1) := by decide +kernel
theorem dX8_has_3 : decode cX8_has 3 = .ok (.iconst 1, 1) := by decide +kernel
theorem dX8_has_4 : decode cX8_has 4 = .ok (.iand, 1) := by decide +kernel
theorem dX8_has_5 : decode cX8_has 5 = .ok (.iconst 1, 1) := by decide +kernel
theorem dX8_has_6 : decode cX8_has 6 = .ok (.if_icmp .ne 7, 3) := by decide +kernel
theorem dX8_has_9 : decode cX8_has 9 = .ok (.iconst 1, 1) := by decide +kernel
theorem dX8_has_10 : decode cX8_has 10 = .ok (.goto 4, 3) := by decide +kernel
theorem dX8_has_13 : decode cX8_has 13 = .ok (.iconst 0, 1) := by decide +kernel
theorem dX8_has_14 : decode cX8_has 14 = .ok (.ireturn, 1) := by decide +kernel
theorem dX8_isHouse_0 : decode cX8_isHouse 0 = .ok (.iload_n 1, 1) := by decide +kernel
theorem dX8_isHouse_1 : decode cX8_isHouse 1 = .ok (.i2l, 1) := by decide +kernel
theorem dX8_isHouse_2 : decode cX8_isHouse 2 = .ok (.lconst 0, 1) := by decide +kernel
theorem dX8_isHouse_3 : decode cX8_isHouse 3 = .ok (.lconst 1, 1) := by decide +kernel
theorem dX8_isHouse_4 : decode cX8_isHouse 4 = .ok (.invokestatic 109, 3) := by decide +kernel
theorem dX8_isHouse_7 : decode cX8_isHouse 7 = .ok (.ifCond .eq 16, 3) := by decide +kernel
theorem dX8_isHouse_10 : decode cX8_isHouse 10 = .ok (.aload_n 0, 1) := by decide +kernel
theorem dX8_isHouse_11 : decode cX8_isHouse 11 = .ok (.getfield 7, 3) := by decide +kernel
theorem dX8_isHouse_14 : decode cX8_isHouse 14 = .ok (.iload_n 1, 1) := by decide +kernel
theorem dX8_isHouse_15 : decode cX8_isHouse 15 = .ok (.iaload, 1) := by decide +kernel
theorem dX8_isHouse_16 : decode cX8_isHouse 16 = .ok (.ifCond .le 7, 3) := by decide +kernel
theorem dX8_isHouse_19 : decode cX8_isHouse 19 = .ok (.iconst 1, 1) := by decide +kernel
theorem dX8_isHouse_20 : decode cX8_isHouse 20 = .ok (.goto 4, 3) := by decide +kernel
theorem dX8_isHouse_23 : decode cX8_isHouse 23 = .ok (.iconst 0, 1) := by decide +kernel
theorem dX8_isHouse_24 : decode cX8_isHouse 24 = .ok (.ireturn, 1) := by decide +kernel
theorem dX8_isRung_0 : decode cX8_isRung 0 = .ok (.aload_n 0, 1) := by decide +kernel
theorem dX8_isRung_1 : decode cX8_isRung 1 = .ok (.iload_n 1, 1) := by decide +kernel
theorem dX8_isRung_2 : decode cX8_isRung 2 = .ok (.invokevirtual 113, 3) := by decide +kernel
theorem dX8_isRung_5 : decode cX8_isRung 5 = .ok (.ifCond .eq 25, 3) := by decide +kernel
theorem dX8_isRung_8 : decode cX8_isRung 8 = .ok (.iload_n 2, 1) := by decide +kernel
theorem dX8_isRung_9 : decode cX8_isRung 9 = .ok (.i2l, 1) := by decide +kernel
theorem dX8_isRung_10 : decode cX8_isRung 10 = .ok (.lconst 0, 1) := by decide +kernel
theorem dX8_isRung_11 : decode cX8_isRung 11 = .ok (.aload_n 0, 1) := by decide +kernel
theorem dX8_isRung_12 : decode cX8_isRung 12 = .ok (.getfield 7, 3) := by decide +kernel
theorem dX8_isRung_15 : decode cX8_isRung 15 = .ok (.iload_n 1, 1) := by decide +kernel
theorem dX8_isRung_16 : decode cX8_isRung 16 = .ok (.iaload, 1) := by decide +kernel
theorem dX8_isRung_17 : decode cX8_isRung 17 = .ok (.iconst 1, 1) := by decide +kernel
theorem dX8_isRung_18 : decode cX8_isRung 18 = .ok (.isub, 1) := by decide +kernel
theorem dX8_isRung_19 : decode cX8_isRung 19 = .ok (.i2l, 1) := by decide +kernel
theorem dX8_isRung_20 : decode cX8_isRung 20 = .ok (.invokestatic 109, 3) := by decide +kernel
theorem dX8_isRung_23 : decode cX8_isRung 23 = .ok (.ifCond .eq 7, 3) := by decide +kernel
theorem dX8_isRung_26 : decode cX8_isRung 26 = .ok (.iconst 1, 1) := by decide +kernel
theorem dX8_isRung_27 : decode cX8_isRung 27 = .ok (.goto 4, 3) := by decide +kernel
theorem dX8_isRung_30 : decode cX8_isRung 30 = .ok (.iconst 0, 1) := by decide +kernel
theorem dX8_isRung_31 : decode cX8_isRung 31 = .ok (.ireturn, 1) := by decide +kernel
theorem dX8_isSort_0 : decode cX8_isSort 0 = .ok (.iload_n 1, 1) := by decide +kernel
theorem dX8_isSort_1 : decode cX8_isSort 1 = .ok (.i2l, 1) := by decide +kernel
theorem dX8_isSort_2 : decode cX8_isSort 2 = .ok (.lconst 0, 1) := by decide +kernel
theorem dX8_isSort_3 : decode cX8_isSort 3 = .ok (.aload_n 0, 1) := by decide +kernel
theorem dX8_isSort_4 : decode cX8_isSort 4 = .ok (.getfield 106, 3) := by decide +kernel
theorem dX8_isSort_7 : decode cX8_isSort 7 = .ok (.iconst 1, 1) := by decide +kernel
theorem dX8_isSort_8 : decode cX8_isSort 8 = .ok (.isub, 1) := by decide +kernel
theorem dX8_isSort_9 : decode cX8_isSort 9 = .ok (.i2l, 1) := by decide +kernel
theorem dX8_isSort_10 : decode cX8_isSort 10 = .ok (.invokestatic 109, 3) := by decide +kernel
theorem dX8_isSort_13 : decode cX8_isSort 13 = .ok (.ireturn, 1) := by decide +kernel
theorem dX8_isTime_0 : decode cX8_isTime 0 = .ok (.iload_n 0, 1) := by decide +kernel
theorem dX8_isTime_1 : decode cX8_isTime 1 = .ok (.i2l, 1) := by decide +kernel
theorem dX8_isTime_2 : decode cX8_isTime 2 = .ok (.lconst 1, 1) := by decide +kernel
theorem dX8_isTime_3 : decode cX8_isTime 3 = .ok (.ldc2_w 117, 3) := by decide +kernel
theorem dX8_isTime_6 : decode cX8_isTime 6 = .ok (.invokestatic 109, 3) := by decide +kernel
theorem dX8_isTime_9 : decode cX8_isTime 9 = .ok (.ireturn, 1) := by decide +kernel
theorem dX8_feed_0 : decode cX8_feed 0 = .ok (.iload_n 1, 1) := by decide +kernel
theorem dX8_feed_1 : decode cX8_feed 1 = .ok (.i2l, 1) := by decide +kernel
theorem dX8_feed_2 : decode cX8_feed 2 = .ok (.lconst 1, 1) := by decide +kernel
theorem dX8_feed_3 : decode cX8_feed 3 = .ok (.ldc2_w 119, 3) := by decide +kernel
theorem dX8_feed_6 : decode cX8_feed 6 = .ok (.invokestatic 109, 3) := by decide +kernel
theorem dX8_feed_9 : decode cX8_feed 9 = .ok (.ifCond .ne 6, 3) := by decide +kernel
theorem dX8_feed_12 : decode cX8_feed 12 = .ok (.ldc 121, 2) := by decide +kernel
theorem dX8_feed_14 : decode cX8_feed 14 = .ok (.ireturn, 1) := by decide +kernel
theorem dX8_feed_15 : decode cX8_feed 15 = .ok (.aload_n 0, 1) := by decide +kernel
theorem dX8_feed_16 : decode cX8_feed 16 = .ok (.getfield 122, 3) := by decide +kernel
theorem dX8_feed_19 : decode cX8_feed 19 = .ok (.iload_n 1, 1) := by decide +kernel
theorem dX8_feed_20 : decode cX8_feed 20 = .ok (.iadd, 1) := by decide +kernel
theorem dX8_feed_21 : decode cX8_feed 21 = .ok (.sipush 300, 3) := by decide +kernel
theorem dX8_feed_24 : decode cX8_feed 24 = .ok (.if_icmp .le 6, 3) := by decide +kernel
theorem dX8_feed_27 : decode cX8_feed 27 = .ok (.ldc 125, 2) := by decide +kernel
theorem dX8_feed_29 : decode cX8_feed 29 = .ok (.ireturn, 1) := by decide +kernel
theorem dX8_feed_30 : decode cX8_feed 30 = .ok (.iload_n 1, 1) := by decide +kernel
theorem dX8_feed_31 : decode cX8_feed 31 = .ok (.iconst 1, 1) := by decide +kernel
theorem dX8_feed_32 : decode cX8_feed 32 = .ok (.isub, 1) := by decide +kernel
theorem dX8_feed_33 : decode cX8_feed 33 = .ok (.istore 4, 2) := by decide +kernel
theorem dX8_feed_35 : decode cX8_feed 35 = .ok (.iload 4, 2) := by decide +kernel
theorem dX8_feed_37 : decode cX8_feed 37 = .ok (.ifCond .lt 40, 3) := by decide +kernel
theorem dX8_feed_40 : decode cX8_feed 40 = .ok (.aload_n 0, 1) := by decide +kernel
theorem dX8_feed_41 : decode cX8_feed 41 = .ok (.getfield 46, 3) := by decide +kernel
theorem dX8_feed_44 : decode cX8_feed 44 = .ok (.aload_n 0, 1) := by decide +kernel
theorem dX8_feed_45 : decode cX8_feed 45 = .ok (.getfield 122, 3) := by decide +kernel
theorem dX8_feed_48 : decode cX8_feed 48 = .ok (.lload_n 2, 1) := by decide +kernel
theorem dX8_feed_49 : decode cX8_feed 49 = .ok (.bipush 8, 2) := by decide +kernel
theorem dX8_feed_51 : decode cX8_feed 51 = .ok (.iload 4, 2) := by decide +kernel
theorem dX8_feed_53 : decode cX8_feed 53 = .ok (.imul, 1) := by decide +kernel
theorem dX8_feed_54 : decode cX8_feed 54 = .ok (.lshr, 1) := by decide +kernel
theorem dX8_feed_55 : decode cX8_feed 55 = .ok (.ldc2_w 126, 3) := by decide +kernel
theorem dX8_feed_58 : decode cX8_feed 58 = .ok (.land, 1) := by decide +kernel
theorem dX8_feed_59 : decode cX8_feed 59 = .ok (.l2i, 1) := by decide +kernel
theorem dX8_feed_60 : decode cX8_feed 60 = .ok (.iastore, 1) := by decide +kernel
theorem dX8_feed_61 : decode cX8_feed 61 = .ok (.aload_n 0, 1) := by decide +kernel
theorem dX8_feed_62 : decode cX8_feed 62 = .ok (.dup, 1) := by decide +kernel
theorem dX8_feed_63 : decode cX8_feed 63 = .ok (.getfield 122, 3) := by decide +kernel
theorem dX8_feed_66 : decode cX8_feed 66 = .ok (.iconst 1, 1) := by decide +kernel
theorem dX8_feed_67 : decode cX8_feed 67 = .ok (.iadd, 1) := by decide +kernel
theorem dX8_feed_68 : decode cX8_feed 68 = .ok (.putfield 122, 3) := by decide +kernel
theorem dX8_feed_71 : decode cX8_feed 71 = .ok (.iinc 4 (-1), 3) := by decide +kernel
theorem dX8_feed_74 : decode cX8_feed 74 = .ok (.goto (-39), 3) := by decide +kernel
theorem dX8_feed_77 : decode cX8_feed 77 = .ok (.aload_n 0, 1) := by decide +kernel
theorem dX8_feed_78 : decode cX8_feed 78 = .ok (.getfield 122, 3) := by decide +kernel
theorem dX8_feed_81 : decode cX8_feed 81 = .ok (.ireturn, 1) := by decide +kernel
theorem dX8_here_0 : decode cX8_here 0 = .ok (.aload_n 0, 1) := by decide +kernel
theorem dX8_here_1 : decode cX8_here 1 = .ok (.getfield 128, 3) := by decide +kernel
theorem dX8_here_4 : decode cX8_here 4 = .ok (.aload_n 0, 1) := by decide +kernel
theorem dX8_here_5 : decode cX8_here 5 = .ok (.getfield 122, 3) := by decide +kernel
theorem dX8_here_8 : decode cX8_here 8 = .ok (.if_icmp .ge 30, 3) := by decide +kernel
theorem dX8_here_11 : decode cX8_here 11 = .ok (.aload_n 0, 1) := by decide +kernel
theorem dX8_here_12 : decode cX8_here 12 = .ok (.getfield 46, 3) := by decide +kernel
theorem dX8_here_15 : decode cX8_here 15 = .ok (.aload_n 0, 1) := by decide +kernel
theorem dX8_here_16 : decode cX8_here 16 = .ok (.getfield 128, 3) := by decide +kernel
theorem dX8_here_19 : decode cX8_here 19 = .ok (.iaload, 1) := by decide +kernel
theorem dX8_here_20 : decode cX8_here 20 = .ok (.bipush 32, 2) := by decide +kernel
theorem dX8_here_22 : decode cX8_here 22 = .ok (.if_icmp .ne 16, 3) := by decide +kernel
theorem dX8_here_25 : decode cX8_here 25 = .ok (.aload_n 0, 1) := by decide +kernel
theorem dX8_here_26 : decode cX8_here 26 = .ok (.dup, 1) := by decide +kernel
theorem dX8_here_27 : decode cX8_here 27 = .ok (.getfield 128, 3) := by decide +kernel
theorem dX8_here_30 : decode cX8_here 30 = .ok (.iconst 1, 1) := by decide +kernel
theorem dX8_here_31 : decode cX8_here 31 = .ok (.iadd, 1) := by decide +kernel
theorem dX8_here_32 : decode cX8_here 32 = .ok (.putfield 128, 3) := by decide +kernel
theorem dX8_here_35 : decode cX8_here 35 = .ok (.goto (-35), 3) := by decide +kernel
theorem dX8_here_38 : decode cX8_here 38 = .ok (.aload_n 0, 1) := by decide +kernel
theorem dX8_here_39 : decode cX8_here 39 = .ok (.getfield 128, 3) := by decide +kernel
theorem dX8_here_42 : decode cX8_here 42 = .ok (.aload_n 0, 1) := by decide +kernel
theorem dX8_here_43 : decode cX8_here 43 = .ok (.getfield 122, 3) := by decide +kernel
theorem dX8_here_46 : decode cX8_here 46 = .ok (.if_icmp .ge 15, 3) := by decide +kernel
theorem dX8_here_49 : decode cX8_here 49 = .ok (.aload_n 0, 1) := by decide +kernel
theorem dX8_here_50 : decode cX8_here 50 = .ok (.getfield 46, 3) := by decide +kernel
theorem dX8_here_53 : decode cX8_here 53 = .ok (.aload_n 0, 1) := by decide +kernel
theorem dX8_here_54 : decode cX8_here 54 = .ok (.getfield 128, 3) := by decide +kernel
theorem dX8_here_57 : decode cX8_here 57 = .ok (.iaload, 1) := by decide +kernel
theorem dX8_here_58 : decode cX8_here 58 = .ok (.goto 4, 3) := by decide +kernel
theorem dX8_here_61 : decode cX8_here 61 = .ok (.iconst (-1), 1) := by decide +kernel
theorem dX8_here_62 : decode cX8_here 62 = .ok (.ireturn, 1) := by decide +kernel
theorem dX8_fails_0 : decode cX8_fails 0 = .ok (.aload_n 0, 1) := by decide +kernel
theorem dX8_fails_1 : decode cX8_fails 1 = .ok (.iload_n 2, 1) := by decide +kernel
theorem dX8_fails_2 : decode cX8_fails 2 = .ok (.putfield 49, 3) := by decide +kernel
theorem dX8_fails_5 : decode cX8_fails 5 = .ok (.iload_n 1, 1) := by decide +kernel
theorem dX8_fails_6 : decode cX8_fails 6 = .ok (.ireturn, 1) := by decide +kernel
theorem dX8_readWord_0 : decode cX8_readWord 0 = .ok (.aload_n 0, 1) := by decide +kernel
theorem dX8_readWord_1 : decode cX8_readWord 1 = .ok (.invokevirtual 131, 3) := by decide +kernel
theorem dX8_readWord_4 : decode cX8_readWord 4 = .ok (.istore_n 1, 1) := by decide +kernel
theorem dX8_readWord_5 : decode cX8_readWord 5 = .ok (.aload_n 0, 1) := by decide +kernel
theorem dX8_readWord_6 : decode cX8_readWord 6 = .ok (.lconst 0, 1) := by decide +kernel
theorem dX8_readWord_7 : decode cX8_readWord 7 = .ok (.putfield 135, 3) := by decide +kernel
theorem dX8_readWord_10 : decode cX8_readWord 10 = .ok (.aload_n 0, 1) := by decide +kernel
theorem dX8_readWord_11 : decode cX8_readWord 11 = .ok (.aload_n 0, 1) := by decide +kernel
theorem dX8_readWord_12 : decode cX8_readWord 12 = .ok (.getfield 128, 3) := by decide +kernel
theorem dX8_readWord_15 : decode cX8_readWord 15 = .ok (.putfield 139, 3) := by decide +kernel
theorem dX8_readWord_18 : decode cX8_readWord 18 = .ok (.aload_n 0, 1) := by decide +kernel
theorem dX8_readWord_19 : decode cX8_readWord 19 = .ok (.getfield 139, 3) := by decide +kernel
theorem dX8_readWord_22 : decode cX8_readWord 22 = .ok (.aload_n 0, 1) := by decide +kernel
theorem dX8_readWord_23 : decode cX8_readWord 23 = .ok (.getfield 122, 3) := by decide +kernel
theorem dX8_readWord_26 : decode cX8_readWord 26 = .ok (.if_icmp .ge 82, 3) := by decide +kernel
theorem dX8_readWord_29 : decode cX8_readWord 29 = .ok (.aload_n 0, 1) := by decide +kernel
theorem dX8_readWord_30 : decode cX8_readWord 30 = .ok (.getfield 46, 3) := by decide +kernel
theorem dX8_readWord_33 : decode cX8_readWord 33 = .ok (.aload_n 0, 1) := by decide +kernel
theorem dX8_readWord_34 : decode cX8_readWord 34 = .ok (.getfield 139, 3) := by decide +kernel
theorem dX8_readWord_37 : decode cX8_readWord 37 = .ok (.iaload, 1) := by decide +kernel
theorem dX8_readWord_38 : decode cX8_readWord 38 = .ok (.i2l, 1) := by decide +kernel
theorem dX8_readWord_39 : decode cX8_readWord 39 = .ok (.ldc2_w 142, 3) := by decide +kernel
theorem dX8_readWord_42 : decode cX8_readWord 42 = .ok (.ldc2_w 144, 3) := by decide +kernel
theorem dX8_readWord_45 : decode cX8_readWord 45 = .ok (.invokestatic 109, 3) := by decide +kernel
theorem dX8_readWord_48 : decode cX8_readWord 48 = .ok (.ifCond .eq 60, 3) := by decide +kernel
theorem dX8_readWord_51 : decode cX8_readWord 51 = .ok (.aload_n 0, 1) := by decide +kernel
theorem dX8_readWord_52 : decode cX8_readWord 52 = .ok (.aload_n 0, 1) := by decide +kernel
theorem dX8_readWord_53 : decode cX8_readWord 53 = .ok (.getfield 135, 3) := by decide +kernel
theorem dX8_readWord_56 : decode cX8_readWord 56 = .ok (.ldc2_w 146, 3) := by decide +kernel
theorem dX8_readWord_59 : decode cX8_readWord 59 = .ok (.lcmp, 1) := by decide +kernel
theorem dX8_readWord_60 : decode cX8_readWord 60 = .ok (.ifCond .le 9, 3) := by decide +kernel
theorem dX8_readWord_63 : decode cX8_readWord 63 = .ok (.ldc2_w 148, 3) := by decide +kernel
theorem dX8_readWord_66 : decode cX8_readWord 66 = .ok (.goto 26, 3) := by decide +kernel
theorem dX8_readWord_69 : decode cX8_readWord 69 = .ok (.ldc2_w 150, 3) := by decide +kernel
theorem dX8_readWord_72 : decode cX8_readWord 72 = .ok (.aload_n 0, 1) := by decide +kernel
theorem dX8_readWord_73 : decode cX8_readWord 73 = .ok (.getfield 135, 3) := by decide +kernel
theorem dX8_readWord_76 : decode cX8_readWord 76 = .ok (.lmul, 1) := by decide +kernel
theorem dX8_readWord_77 : decode cX8_readWord 77 = .ok (.aload_n 0, 1) := by decide +kernel
theorem dX8_readWord_78 : decode cX8_readWord 78 = .ok (.getfield 46, 3) := by decide +kernel
theorem dX8_readWord_81 : decode cX8_readWord 81 = .ok (.aload_n 0, 1) := by decide +kernel
theorem dX8_readWord_82 : decode cX8_readWord 82 = .ok (.getfield 139, 3) := by decide +kernel
theorem dX8_readWord_85 : decode cX8_readWord 85 = .ok (.iaload, 1) := by decide +kernel
theorem dX8_readWord_86 : decode cX8_readWord 86 = .ok (.i2l, 1) := by decide +kernel
theorem dX8_readWord_87 : decode cX8_readWord 87 = .ok (.ladd, 1) := by decide +kernel
theorem dX8_readWord_88 : decode cX8_readWord 88 = .ok (.ldc2_w 152, 3) := by decide +kernel
theorem dX8_readWord_91 : decode cX8_readWord 91 = .ok (.lsub, 1) := by decide +kernel
theorem dX8_readWord_92 : decode cX8_readWord 92 = .ok (.putfield 135, 3) := by decide +kernel
theorem dX8_readWord_95 : decode cX8_readWord 95 = .ok (.aload_n 0, 1) := by decide +kernel
theorem dX8_readWord_96 : decode cX8_readWord 96 = .ok (.dup, 1) := by decide +kernel
theorem dX8_readWord_97 : decode cX8_readWord 97 = .ok (.getfield 139, 3) := by decide +kernel
theorem dX8_readWord_100 : decode cX8_readWord 100 = .ok (.iconst 1, 1) := by decide +kernel
theorem dX8_readWord_101 : decode cX8_readWord 101 = .ok (.iadd, 1) := by decide +kernel
theorem dX8_readWord_102 : decode cX8_readWord 102 = .ok (.putfield 139, 3) := by decide +kernel
theorem dX8_readWord_105 : decode cX8_readWord 105 = .ok (.goto (-87), 3) := by decide +kernel
theorem dX8_readWord_108 : decode cX8_readWord 108 = .ok (.return_, 1) := by decide +kernel
theorem dX8_code_0 : decode cX8_code 0 = .ok (.ldc2_w 150, 3) := by decide +kernel
theorem dX8_code_3 : decode cX8_code 3 = .ok (.ldc2_w 150, 3) := by decide +kernel
theorem dX8_code_6 : decode cX8_code 6 = .ok (.ldc2_w 150, 3) := by decide +kernel
theorem dX8_code_9 : decode cX8_code 9 = .ok (.iload_n 0, 1) := by decide +kernel
theorem dX8_code_10 : decode cX8_code 10 = .ok (.i2l, 1) := by decide +kernel
theorem dX8_code_11 : decode cX8_code 11 = .ok (.ldc2_w 152, 3) := by decide +kernel
theorem dX8_code_14 : decode cX8_code 14 = .ok (.lsub, 1) := by decide +kernel
theorem dX8_code_15 : decode cX8_code 15 = .ok (.lmul, 1) := by decide +kernel
theorem dX8_code_16 : decode cX8_code 16 = .ok (.iload_n 1, 1) := by decide +kernel
theorem dX8_code_17 : decode cX8_code 17 = .ok (.i2l, 1) := by decide +kernel
theorem dX8_code_18 : decode cX8_code 18 = .ok (.ladd, 1) := by decide +kernel
theorem dX8_code_19 : decode cX8_code 19 = .ok (.ldc2_w 152, 3) := by decide +kernel
theorem dX8_code_22 : decode cX8_code 22 = .ok (.lsub, 1) := by decide +kernel
theorem dX8_code_23 : decode cX8_code 23 = .ok (.lmul, 1) := by decide +kernel
theorem dX8_code_24 : decode cX8_code 24 = .ok (.iload_n 2, 1) := by decide +kernel
theorem dX8_code_25 : decode cX8_code 25 = .ok (.i2l, 1) := by decide +kernel
theorem dX8_code_26 : decode cX8_code 26 = .ok (.ladd, 1) := by decide +kernel
theorem dX8_code_27 : decode cX8_code 27 = .ok (.ldc2_w 152, 3) := by decide +kernel
theorem dX8_code_30 : decode cX8_code 30 = .ok (.lsub, 1) := by decide +kernel
theorem dX8_code_31 : decode cX8_code 31 = .ok (.lmul, 1) := by decide +kernel
theorem dX8_code_32 : decode cX8_code 32 = .ok (.iload_n 3, 1) := by decide +kernel
theorem dX8_code_33 : decode cX8_code 33 = .ok (.i2l, 1) := by decide +kernel
theorem dX8_code_34 : decode cX8_code 34 = .ok (.ladd, 1) := by decide +kernel
theorem dX8_code_35 : decode cX8_code 35 = .ok (.ldc2_w 152, 3) := by decide +kernel
theorem dX8_code_38 : decode cX8_code 38 = .ok (.lsub, 1) := by decide +kernel
theorem dX8_code_39 : decode cX8_code 39 = .ok (.lreturn, 1) := by decide +kernel
theorem dX8_longer_0 : decode cX8_longer 0 = .ok (.ldc2_w 150, 3) := by decide +kernel
theorem dX8_longer_3 : decode cX8_longer 3 = .ok (.lload_n 0, 1) := by decide +kernel
theorem dX8_longer_4 : decode cX8_longer 4 = .ok (.lmul, 1) := by decide +kernel
theorem dX8_longer_5 : decode cX8_longer 5 = .ok (.iload_n 2, 1) := by decide +kernel
theorem dX8_longer_6 : decode cX8_longer 6 = .ok (.i2l, 1) := by decide +kernel
theorem dX8_longer_7 : decode cX8_longer 7 = .ok (.ladd, 1) := by decide +kernel
theorem dX8_longer_8 : decode cX8_longer 8 = .ok (.ldc2_w 152, 3) := by decide +kernel
theorem dX8_longer_11 : decode cX8_longer 11 = .ok (.lsub, 1) := by decide +kernel
theorem dX8_longer_12 : decode cX8_longer 12 = .ok (.lreturn, 1) := by decide +kernel
theorem dX8_takeNumber_0 : decode cX8_takeNumber 0 = .ok (.aload_n 0, 1) := by decide +kernel
theorem dX8_takeNumber_1 : decode cX8_takeNumber 1 = .ok (.invokevirtual 131, 3) := by decide +kernel
theorem dX8_takeNumber_4 : decode cX8_takeNumber 4 = .ok (.istore_n 3, 1) := by decide +kernel
theorem dX8_takeNumber_5 : decode cX8_takeNumber 5 = .ok (.iload_n 3, 1) := by decide +kernel
theorem dX8_takeNumber_6 : decode cX8_takeNumber 6 = .ok (.i2l, 1) := by decide +kernel
theorem dX8_takeNumber_7 : decode cX8_takeNumber 7 = .ok (.ldc2_w 154, 3) := by decide +kernel
theorem dX8_takeNumber_10 : decode cX8_takeNumber 10 = .ok (.ldc2_w 156, 3) := by decide +kernel
theorem dX8_takeNumber_13 : decode cX8_takeNumber 13 = .ok (.invokestatic 109, 3) := by decide +kernel
theorem dX8_takeNumber_16 : decode cX8_takeNumber 16 = .ok (.ifCond .ne 13, 3) := by decide +kernel
theorem dX8_takeNumber_19 : decode cX8_takeNumber 19 = .ok (.aload_n 0, 1) := by decide +kernel
theorem dX8_takeNumber_20 : decode cX8_takeNumber 20 = .ok (.iconst 1, 1) := by decide +kernel
theorem dX8_takeNumber_21 : decode cX8_takeNumber 21 = .ok (.aload_n 0, 1) := by decide +kernel
theorem dX8_takeNumber_22 : decode cX8_takeNumber 22 = .ok (.getfield 128, 3) := by decide +kernel
theorem dX8_takeNumber_25 : decode cX8_takeNumber 25 = .ok (.invokevirtual 158, 3) := by decide +kernel
theorem dX8_takeNumber_28 : decode cX8_takeNumber 28 = .ok (.ireturn, 1) := by decide +kernel
theorem dX8_takeNumber_29 : decode cX8_takeNumber 29 = .ok (.aload_n 0, 1) := by decide +kernel
theorem dX8_takeNumber_30 : decode cX8_takeNumber 30 = .ok (.aload_n 0, 1) := by decide +kernel
theorem dX8_takeNumber_31 : decode cX8_takeNumber 31 = .ok (.getfield 128, 3) := by decide +kernel
theorem dX8_takeNumber_34 : decode cX8_takeNumber 34 = .ok (.putfield 162, 3) := by decide +kernel
theorem dX8_takeNumber_37 : decode cX8_takeNumber 37 = .ok (.aload_n 0, 1) := by decide +kernel
theorem dX8_takeNumber_38 : decode cX8_takeNumber 38 = .ok (.iconst 0, 1) := by decide +kernel
theorem dX8_takeNumber_39 : decode cX8_takeNumber 39 = .ok (.putfield 165, 3) := by decide +kernel
theorem dX8_takeNumber_42 : decode cX8_takeNumber 42 = .ok (.aload_n 0, 1) := by decide +kernel
theorem dX8_takeNumber_43 : decode cX8_takeNumber 43 = .ok (.getfield 128, 3) := by decide +kernel
theorem dX8_takeNumber_46 : decode cX8_takeNumber 46 = .ok (.aload_n 0, 1) := by decide +kernel
theorem dX8_takeNumber_47 : decode cX8_takeNumber 47 = .ok (.getfield 122, 3) := by decide +kernel
theorem dX8_takeNumber_50 : decode cX8_takeNumber 50 = .ok (.if_icmp .ge 79, 3) := by decide +kernel
theorem dX8_takeNumber_53 : decode cX8_takeNumber 53 = .ok (.aload_n 0, 1) := by decide +kernel
theorem dX8_takeNumber_54 : decode cX8_takeNumber 54 = .ok (.getfield 46, 3) := by decide +kernel
theorem dX8_takeNumber_57 : decode cX8_takeNumber 57 = .ok (.aload_n 0, 1) := by decide +kernel
theorem dX8_takeNumber_58 : decode cX8_takeNumber 58 = .ok (.getfield 128, 3) := by decide +kernel
theorem dX8_takeNumber_61 : decode cX8_takeNumber 61 = .ok (.iaload, 1) := by decide +kernel
theorem dX8_takeNumber_62 : decode cX8_takeNumber 62 = .ok (.i2l, 1) := by decide +kernel
theorem dX8_takeNumber_63 : decode cX8_takeNumber 63 = .ok (.ldc2_w 154, 3) := by decide +kernel
theorem dX8_takeNumber_66 : decode cX8_takeNumber 66 = .ok (.ldc2_w 156, 3) := by decide +kernel
theorem dX8_takeNumber_69 : decode cX8_takeNumber 69 = .ok (.invokestatic 109, 3) := by decide +kernel
theorem dX8_takeNumber_72 : decode cX8_takeNumber 72 = .ok (.ifCond .eq 57, 3) := by decide +kernel
theorem dX8_takeNumber_75 : decode cX8_takeNumber 75 = .ok (.aload_n 0, 1) := by decide +kernel
theorem dX8_takeNumber_76 : decode cX8_takeNumber 76 = .ok (.aload_n 0, 1) := by decide +kernel
theorem dX8_takeNumber_77 : decode cX8_takeNumber 77 = .ok (.getfield 165, 3) := by decide +kernel
theorem dX8_takeNumber_80 : decode cX8_takeNumber 80 = .ok (.sipush 10000, 3) := by decide +kernel
theorem dX8_takeNumber_83 : decode cX8_takeNumber 83 = .ok (.if_icmp .le 10, 3) := by decide +kernel
theorem dX8_takeNumber_86 : decode cX8_takeNumber 86 = .ok (.aload_n 0, 1) := by decide +kernel
theorem dX8_takeNumber_87 : decode cX8_takeNumber 87 = .ok (.getfield 165, 3) := by decide +kernel
theorem dX8_takeNumber_90 : decode cX8_takeNumber 90 = .ok (.goto 23, 3) := by decide +kernel
theorem dX8_takeNumber_93 : decode cX8_takeNumber 93 = .ok (.bipush 10, 2) := by decide +kernel
theorem dX8_takeNumber_95 : decode cX8_takeNumber 95 = .ok (.aload_n 0, 1) := by decide +kernel
theorem dX8_takeNumber_96 : decode cX8_takeNumber 96 = .ok (.getfield 165, 3) := by decide +kernel
theorem dX8_takeNumber_99 : decode cX8_takeNumber 99 = .ok (.imul, 1) := by decide +kernel
theorem dX8_takeNumber_100 : decode cX8_takeNumber 100 = .ok (.aload_n 0, 1) := by decide +kernel
theorem dX8_takeNumber_101 : decode cX8_takeNumber 101 = .ok (.getfield 46, 3) := by decide +kernel
theorem dX8_takeNumber_104 : decode cX8_takeNumber 104 = .ok (.aload_n 0, 1) := by decide +kernel
theorem dX8_takeNumber_105 : decode cX8_takeNumber 105 = .ok (.getfield 128, 3) := by decide +kernel
theorem dX8_takeNumber_108 : decode cX8_takeNumber 108 = .ok (.iaload, 1) := by decide +kernel
theorem dX8_takeNumber_109 : decode cX8_takeNumber 109 = .ok (.iadd, 1) := by decide +kernel
theorem dX8_takeNumber_110 : decode cX8_takeNumber 110 = .ok (.bipush 48, 2) := by decide +kernel
theorem dX8_takeNumber_112 : decode cX8_takeNumber 112 = .ok (.isub, 1) := by decide +kernel
theorem dX8_takeNumber_113 : decode cX8_takeNumber 113 = .ok (.putfield 165, 3) := by decide +kernel
theorem dX8_takeNumber_116 : decode cX8_takeNumber 116 = .ok (.aload_n 0, 1) := by decide +kernel
theorem dX8_takeNumber_117 : decode cX8_takeNumber 117 = .ok (.dup, 1) := by decide +kernel
theorem dX8_takeNumber_118 : decode cX8_takeNumber 118 = .ok (.getfield 128, 3) := by decide +kernel
theorem dX8_takeNumber_121 : decode cX8_takeNumber 121 = .ok (.iconst 1, 1) := by decide +kernel
theorem dX8_takeNumber_122 : decode cX8_takeNumber 122 = .ok (.iadd, 1) := by decide +kernel
theorem dX8_takeNumber_123 : decode cX8_takeNumber 123 = .ok (.putfield 128, 3) := by decide +kernel
theorem dX8_takeNumber_126 : decode cX8_takeNumber 126 = .ok (.goto (-84), 3) := by decide +kernel
theorem dX8_takeNumber_129 : decode cX8_takeNumber 129 = .ok (.aload_n 0, 1) := by decide +kernel
theorem dX8_takeNumber_130 : decode cX8_takeNumber 130 = .ok (.getfield 128, 3) := by decide +kernel
theorem dX8_takeNumber_133 : decode cX8_takeNumber 133 = .ok (.aload_n 0, 1) := by decide +kernel
theorem dX8_takeNumber_134 : decode cX8_takeNumber 134 = .ok (.getfield 162, 3) := by decide +kernel
theorem dX8_takeNumber_137 : decode cX8_takeNumber 137 = .ok (.isub, 1) := by decide +kernel
theorem dX8_takeNumber_138 : decode cX8_takeNumber 138 = .ok (.iconst 3, 1) := by decide +kernel
theorem dX8_takeNumber_139 : decode cX8_takeNumber 139 = .ok (.if_icmp .gt 18, 3) := by decide +kernel
theorem dX8_takeNumber_142 : decode cX8_takeNumber 142 = .ok (.aload_n 0, 1) := by decide +kernel
theorem dX8_takeNumber_143 : decode cX8_takeNumber 143 = .ok (.getfield 165, 3) := by decide +kernel
theorem dX8_takeNumber_146 : decode cX8_takeNumber 146 = .ok (.i2l, 1) := by decide +kernel
theorem dX8_takeNumber_147 : decode cX8_takeNumber 147 = .ok (.iload_n 1, 1) := by decide +kernel
theorem dX8_takeNumber_148 : decode cX8_takeNumber 148 = .ok (.i2l, 1) := by decide +kernel
theorem dX8_takeNumber_149 : decode cX8_takeNumber 149 = .ok (.iload_n 2, 1) := by decide +kernel
theorem dX8_takeNumber_150 : decode cX8_takeNumber 150 = .ok (.i2l, 1) := by decide +kernel
theorem dX8_takeNumber_151 : decode cX8_takeNumber 151 = .ok (.invokestatic 109, 3) := by decide +kernel
theorem dX8_takeNumber_154 : decode cX8_takeNumber 154 = .ok (.ifCond .ne 15, 3) := by decide +kernel
theorem dX8_takeNumber_157 : decode cX8_takeNumber 157 = .ok (.aload_n 0, 1) := by decide +kernel
theorem dX8_takeNumber_158 : decode cX8_takeNumber 158 = .ok (.iconst 2, 1) := by decide +kernel
theorem dX8_takeNumber_159 : decode cX8_takeNumber 159 = .ok (.aload_n 0, 1) := by decide +kernel
theorem dX8_takeNumber_160 : decode cX8_takeNumber 160 = .ok (.getfield 162, 3) := by decide +kernel
theorem dX8_takeNumber_163 : decode cX8_takeNumber 163 = .ok (.invokevirtual 158, 3) := by decide +kernel
theorem dX8_takeNumber_166 : decode cX8_takeNumber 166 = .ok (.goto 4, 3) := by decide +kernel
theorem dX8_takeNumber_169 : decode cX8_takeNumber 169 = .ok (.iconst 0, 1) := by decide +kernel
theorem dX8_takeNumber_170 : decode cX8_takeNumber 170 = .ok (.ireturn, 1) := by decide +kernel
theorem dX8_takeStop_0 : decode cX8_takeStop 0 = .ok (.aload_n 0, 1) := by decide +kernel
theorem dX8_takeStop_1 : decode cX8_takeStop 1 = .ok (.invokevirtual 131, 3) := by decide +kernel
theorem dX8_takeStop_4 : decode cX8_takeStop 4 = .ok (.bipush 59, 2) := by decide +kernel
theorem dX8_takeStop_6 : decode cX8_takeStop 6 = .ok (.if_icmp .eq 13, 3) := by decide +kernel
theorem dX8_takeStop_9 : decode cX8_takeStop 9 = .ok (.aload_n 0, 1) := by decide +kernel
theorem dX8_takeStop_10 : decode cX8_takeStop 10 = .ok (.iconst 1, 1) := by decide +kernel
theorem dX8_takeStop_11 : decode cX8_takeStop 11 = .ok (.aload_n 0, 1) := by decide +kernel
theorem dX8_takeStop_12 : decode cX8_takeStop 12 = .ok (.getfield 128, 3) := by decide +kernel
theorem dX8_takeStop_15 : decode cX8_takeStop 15 = .ok (.invokevirtual 158, 3) := by decide +kernel
theorem dX8_takeStop_18 : decode cX8_takeStop 18 = .ok (.ireturn, 1) := by decide +kernel
theorem dX8_takeStop_19 : decode cX8_takeStop 19 = .ok (.aload_n 0, 1) := by decide +kernel
theorem dX8_takeStop_20 : decode cX8_takeStop 20 = .ok (.dup, 1) := by decide +kernel
theorem dX8_takeStop_21 : decode cX8_takeStop 21 = .ok (.getfield 128, 3) := by decide +kernel
theorem dX8_takeStop_24 : decode cX8_takeStop 24 = .ok (.iconst 1, 1) := by decide +kernel
theorem dX8_takeStop_25 : decode cX8_takeStop 25 = .ok (.iadd, 1) := by decide +kernel
theorem dX8_takeStop_26 : decode cX8_takeStop 26 = .ok (.putfield 128, 3) := by decide +kernel
theorem dX8_takeStop_29 : decode cX8_takeStop 29 = .ok (.iconst 0, 1) := by decide +kernel
theorem dX8_takeStop_30 : decode cX8_takeStop 30 = .ok (.ireturn, 1) := by decide +kernel
theorem dX8_houseClause_0 : decode cX8_houseClause 0 = .ok (.ldc2_w 168, 3) := by decide +kernel
theorem dX8_houseClause_3 : decode cX8_houseClause 3 = .ok (.lstore_n 1, 1) := by decide +kernel
theorem dX8_houseClause_4 : decode cX8_houseClause 4 = .ok (.aload_n 0, 1) := by decide +kernel
theorem dX8_houseClause_5 : decode cX8_houseClause 5 = .ok (.getfield 135, 3) := by decide +kernel
theorem dX8_houseClause_8 : decode cX8_houseClause 8 = .ok (.bipush 114, 2) := by decide +kernel
theorem dX8_houseClause_10 : decode cX8_houseClause 10 = .ok (.bipush 117, 2) := by decide +kernel
theorem dX8_houseClause_12 : decode cX8_houseClause 12 = .ok (.bipush 110, 2) := by decide +kernel
theorem dX8_houseClause_14 : decode cX8_houseClause 14 = .ok (.bipush 103, 2) := by decide +kernel
theorem dX8_houseClause_16 : decode cX8_houseClause 16 = .ok (.invokestatic 170, 3) := by decide +kernel
theorem dX8_houseClause_19 : decode cX8_houseClause 19 = .ok (.lcmp, 1) := by decide +kernel
theorem dX8_houseClause_20 : decode cX8_houseClause 20 = .ok (.ifCond .ne 7, 3) := by decide +kernel
theorem dX8_houseClause_23 : decode cX8_houseClause 23 = .ok (.iconst 0, 1) := by decide +kernel
theorem dX8_houseClause_24 : decode cX8_houseClause 24 = .ok (.goto 40, 3) := by decide +kernel
theorem dX8_houseClause_27 : decode cX8_houseClause 27 = .ok (.aload_n 0, 1) := by decide +kernel
theorem dX8_houseClause_28 : decode cX8_houseClause 28 = .ok (.getfield 135, 3) := by decide +kernel
theorem dX8_houseClause_31 : decode cX8_houseClause 31 = .ok (.lload_n 1, 1) := by decide +kernel
theorem dX8_houseClause_32 : decode cX8_houseClause 32 = .ok (.lcmp, 1) := by decide +kernel
theorem dX8_houseClause_33 : decode cX8_houseClause 33 = .ok (.ifCond .ne 7, 3) := by decide +kernel
theorem dX8_houseClause_36 : decode cX8_houseClause 36 = .ok (.iconst 1, 1) := by decide +kernel
theorem dX8_houseClause_37 : decode cX8_houseClause 37 = .ok (.goto 27, 3) := by decide +kernel
theorem dX8_houseClause_40 : decode cX8_houseClause 40 = .ok (.aload_n 0, 1) := by decide +kernel
theorem dX8_houseClause_41 : decode cX8_houseClause 41 = .ok (.getfield 135, 3) := by decide +kernel
theorem dX8_houseClause_44 : decode cX8_houseClause 44 = .ok (.bipush 100, 2) := by decide +kernel
theorem dX8_houseClause_46 : decode cX8_houseClause 46 = .ok (.bipush 111, 2) := by decide +kernel
theorem dX8_houseClause_48 : decode cX8_houseClause 48 = .ok (.bipush 119, 2) := by decide +kernel
theorem dX8_houseClause_50 : decode cX8_houseClause 50 = .ok (.bipush 110, 2) := by decide +kernel
theorem dX8_houseClause_52 : decode cX8_houseClause 52 = .ok (.invokestatic 170, 3) := by decide +kernel
theorem dX8_houseClause_55 : decode cX8_houseClause 55 = .ok (.lcmp, 1) := by decide +kernel
theorem dX8_houseClause_56 : decode cX8_houseClause 56 = .ok (.ifCond .ne 7, 3) := by decide +kernel
theorem dX8_houseClause_59 : decode cX8_houseClause 59 = .ok (.iconst 2, 1) := by decide +kernel
theorem dX8_houseClause_60 : decode cX8_houseClause 60 = .ok (.goto 4, 3) := by decide +kernel
theorem dX8_houseClause_63 : decode cX8_houseClause 63 = .ok (.iconst (-1), 1) := by decide +kernel
theorem dX8_houseClause_64 : decode cX8_houseClause 64 = .ok (.istore_n 3, 1) := by decide +kernel
theorem dX8_houseClause_65 : decode cX8_houseClause 65 = .ok (.aload_n 0, 1) := by decide +kernel
theorem dX8_houseClause_66 : decode cX8_houseClause 66 = .ok (.getfield 135, 3) := by decide +kernel
theorem dX8_houseClause_69 : decode cX8_houseClause 69 = .ok (.bipush 102, 2) := by decide +kernel
theorem dX8_houseClause_71 : decode cX8_houseClause 71 = .ok (.bipush 105, 2) := by decide +kernel
theorem dX8_houseClause_73 : decode cX8_houseClause 73 = .ok (.bipush 114, 2) := by decide +kernel
theorem dX8_houseClause_75 : decode cX8_houseClause 75 = .ok (.bipush 115, 2) := by decide +kernel
theorem dX8_houseClause_77 : decode cX8_houseClause 77 = .ok (.invokestatic 170, 3) := by decide +kernel
theorem dX8_houseClause_80 : decode cX8_houseClause 80 = .ok (.bipush 116, 2) := by decide +kernel
theorem dX8_houseClause_82 : decode cX8_houseClause 82 = .ok (.invokestatic 174, 3) := by decide +kernel
theorem dX8_houseClause_85 : decode cX8_houseClause 85 = .ok (.lcmp, 1) := by decide +kernel
theorem dX8_houseClause_86 : decode cX8_houseClause 86 = .ok (.ifCond .ne 7, 3) := by decide +kernel
theorem dX8_houseClause_89 : decode cX8_houseClause 89 = .ok (.iconst 3, 1) := by decide +kernel
theorem dX8_houseClause_90 : decode cX8_houseClause 90 = .ok (.goto 32, 3) := by decide +kernel
theorem dX8_houseClause_93 : decode cX8_houseClause 93 = .ok (.aload_n 0, 1) := by decide +kernel
theorem dX8_houseClause_94 : decode cX8_houseClause 94 = .ok (.getfield 135, 3) := by decide +kernel
theorem dX8_houseClause_97 : decode cX8_houseClause 97 = .ok (.bipush 101, 2) := by decide +kernel
theorem dX8_houseClause_99 : decode cX8_houseClause 99 = .ok (.bipush 110, 2) := by decide +kernel
theorem dX8_houseClause_101 : decode cX8_houseClause 101 = .ok (.bipush 116, 2) := by decide +kernel
theorem dX8_houseClause_103 : decode cX8_houseClause 103 = .ok (.bipush 101, 2) := by decide +kernel
theorem dX8_houseClause_105 : decode cX8_houseClause 105 = .ok (.invokestatic 170, 3) := by decide +kernel
theorem dX8_houseClause_108 : decode cX8_houseClause 108 = .ok (.bipush 114, 2) := by decide +kernel
theorem dX8_houseClause_110 : decode cX8_houseClause 110 = .ok (.invokestatic 174, 3) := by decide +kernel
theorem dX8_houseClause_113 : decode cX8_houseClause 113 = .ok (.lcmp, 1) := by decide +kernel
theorem dX8_houseClause_114 : decode cX8_houseClause 114 = .ok (.ifCond .ne 7, 3) := by decide +kernel
theorem dX8_houseClause_117 : decode cX8_houseClause 117 = .ok (.iconst 4, 1) := by decide +kernel
theorem dX8_houseClause_118 : decode cX8_houseClause 118 = .ok (.goto 4, 3) := by decide +kernel
theorem dX8_houseClause_121 : decode cX8_houseClause 121 = .ok (.iconst (-1), 1) := by decide +kernel
theorem dX8_houseClause_122 : decode cX8_houseClause 122 = .ok (.istore 4, 2) := by decide +kernel
theorem dX8_houseClause_124 : decode cX8_houseClause 124 = .ok (.iload_n 3, 1) := by decide +kernel
theorem dX8_houseClause_125 : decode cX8_houseClause 125 = .ok (.ifCond .lt 7, 3) := by decide +kernel
theorem dX8_houseClause_128 : decode cX8_houseClause 128 = .ok (.iload_n 3, 1) := by decide +kernel
theorem dX8_houseClause_129 : decode cX8_houseClause 129 = .ok (.goto 5, 3) := by decide +kernel
theorem dX8_houseClause_132 : decode cX8_houseClause 132 = .ok (.iload 4, 2) := by decide +kernel
theorem dX8_houseClause_134 : decode cX8_houseClause 134 = .ok (.ireturn, 1) := by decide +kernel
theorem dX8_takeHouse_0 : decode cX8_takeHouse 0 = .ok (.aload_n 0, 1) := by decide +kernel
theorem dX8_takeHouse_1 : decode cX8_takeHouse 1 = .ok (.invokevirtual 178, 3) := by decide +kernel
theorem dX8_takeHouse_4 : decode cX8_takeHouse 4 = .ok (.aload_n 0, 1) := by decide +kernel
theorem dX8_takeHouse_5 : decode cX8_takeHouse 5 = .ok (.invokevirtual 181, 3) := by decide +kernel
theorem dX8_takeHouse_8 : decode cX8_takeHouse 8 = .ok (.istore_n 1, 1) := by decide +kernel
theorem dX8_takeHouse_9 : decode cX8_takeHouse 9 = .ok (.iload_n 1, 1) := by decide +kernel
theorem dX8_takeHouse_10 : decode cX8_takeHouse 10 = .ok (.ifCond .ne 22, 3) := by decide +kernel
theorem dX8_takeHouse_13 : decode cX8_takeHouse 13 = .ok (.aload_n 0, 1) := by decide +kernel
theorem dX8_takeHouse_14 : decode cX8_takeHouse 14 = .ok (.getfield 7, 3) := by decide +kernel
theorem dX8_takeHouse_17 : decode cX8_takeHouse 17 = .ok (.iconst 2, 1) := by decide +kernel
theorem dX8_takeHouse_18 : decode cX8_takeHouse 18 = .ok (.iaload, 1) := by decide +kernel
theorem dX8_takeHouse_19 : decode cX8_takeHouse 19 = .ok (.bipush 10, 2) := by decide +kernel
theorem dX8_takeHouse_21 : decode cX8_takeHouse 21 = .ok (.if_icmp .ne 7, 3) := by decide +kernel
theorem dX8_takeHouse_24 : decode cX8_takeHouse 24 = .ok (.iconst 1, 1) := by decide +kernel
theorem dX8_takeHouse_25 : decode cX8_takeHouse 25 = .ok (.goto 27, 3) := by decide +kernel
theorem dX8_takeHouse_28 : decode cX8_takeHouse 28 = .ok (.iconst 0, 1) := by decide +kernel
theorem dX8_takeHouse_29 : decode cX8_takeHouse 29 = .ok (.goto 23, 3) := by decide +kernel
theorem dX8_takeHouse_32 : decode cX8_takeHouse 32 = .ok (.iload_n 1, 1) := by decide +kernel
theorem dX8_takeHouse_33 : decode cX8_takeHouse 33 = .ok (.ifCond .le 18, 3) := by decide +kernel
theorem dX8_takeHouse_36 : decode cX8_takeHouse 36 = .ok (.aload_n 0, 1) := by decide +kernel
theorem dX8_takeHouse_37 : decode cX8_takeHouse 37 = .ok (.getfield 184, 3) := by decide +kernel
theorem dX8_takeHouse_40 : decode cX8_takeHouse 40 = .ok (.iload_n 1, 1) := by decide +kernel
theorem dX8_takeHouse_41 : decode cX8_takeHouse 41 = .ok (.invokestatic 187, 3) := by decide +kernel
theorem dX8_takeHouse_44 : decode cX8_takeHouse 44 = .ok (.ifCond .eq 7, 3) := by decide +kernel
theorem dX8_takeHouse_47 : decode cX8_takeHouse 47 = .ok (.iconst 1, 1) := by decide +kernel
theorem dX8_takeHouse_48 : decode cX8_takeHouse 48 = .ok (.goto 4, 3) := by decide +kernel
theorem dX8_takeHouse_51 : decode cX8_takeHouse 51 = .ok (.iconst 0, 1) := by decide +kernel
theorem dX8_takeHouse_52 : decode cX8_takeHouse 52 = .ok (.istore_n 2, 1) := by decide +kernel
theorem dX8_takeHouse_53 : decode cX8_takeHouse 53 = .ok (.iload_n 1, 1) := by decide +kernel
theorem dX8_takeHouse_54 : decode cX8_takeHouse 54 = .ok (.ifCond .lt 7, 3) := by decide +kernel
theorem dX8_takeHouse_57 : decode cX8_takeHouse 57 = .ok (.iload_n 2, 1) := by decide +kernel
theorem dX8_takeHouse_58 : decode cX8_takeHouse 58 = .ok (.ifCond .eq 21, 3) := by decide +kernel
theorem dX8_takeHouse_61 : decode cX8_takeHouse 61 = .ok (.aload_n 0, 1) := by decide +kernel
theorem dX8_takeHouse_62 : decode cX8_takeHouse 62 = .ok (.iload_n 1, 1) := by decide +kernel
theorem dX8_takeHouse_63 : decode cX8_takeHouse 63 = .ok (.ifCond .ge 7, 3) := by decide +kernel
theorem dX8_takeHouse_66 : decode cX8_takeHouse 66 = .ok (.iconst 1, 1) := by decide +kernel
theorem dX8_takeHouse_67 : decode cX8_takeHouse 67 = .ok (.goto 4, 3) := by decide +kernel
theorem dX8_takeHouse_70 : decode cX8_takeHouse 70 = .ok (.iconst 3, 1) := by decide +kernel
theorem dX8_takeHouse_71 : decode cX8_takeHouse 71 = .ok (.aload_n 0, 1) := by decide +kernel
theorem dX8_takeHouse_72 : decode cX8_takeHouse 72 = .ok (.getfield 128, 3) := by decide +kernel
theorem dX8_takeHouse_75 : decode cX8_takeHouse 75 = .ok (.invokevirtual 158, 3) := by decide +kernel
theorem dX8_takeHouse_78 : decode cX8_takeHouse 78 = .ok (.ireturn, 1) := by decide +kernel
theorem dX8_takeHouse_79 : decode cX8_takeHouse 79 = .ok (.aload_n 0, 1) := by decide +kernel
theorem dX8_takeHouse_80 : decode cX8_takeHouse 80 = .ok (.dup, 1) := by decide +kernel
theorem dX8_takeHouse_81 : decode cX8_takeHouse 81 = .ok (.getfield 184, 3) := by decide +kernel
theorem dX8_takeHouse_84 : decode cX8_takeHouse 84 = .ok (.iconst 1, 1) := by decide +kernel
theorem dX8_takeHouse_85 : decode cX8_takeHouse 85 = .ok (.iload_n 1, 1) := by decide +kernel
theorem dX8_takeHouse_86 : decode cX8_takeHouse 86 = .ok (.ishl, 1) := by decide +kernel
theorem dX8_takeHouse_87 : decode cX8_takeHouse 87 = .ok (.ior, 1) := by decide +kernel
theorem dX8_takeHouse_88 : decode cX8_takeHouse 88 = .ok (.putfield 184, 3) := by decide +kernel
theorem dX8_takeHouse_91 : decode cX8_takeHouse 91 = .ok (.aload_n 0, 1) := by decide +kernel
theorem dX8_takeHouse_92 : decode cX8_takeHouse 92 = .ok (.aload_n 0, 1) := by decide +kernel
theorem dX8_takeHouse_93 : decode cX8_takeHouse 93 = .ok (.getfield 139, 3) := by decide +kernel
theorem dX8_takeHouse_96 : decode cX8_takeHouse 96 = .ok (.putfield 128, 3) := by decide +kernel
theorem dX8_takeHouse_99 : decode cX8_takeHouse 99 = .ok (.aload_n 0, 1) := by decide +kernel
theorem dX8_takeHouse_100 : decode cX8_takeHouse 100 = .ok (.iload_n 1, 1) := by decide +kernel
theorem dX8_takeHouse_101 : decode cX8_takeHouse 101 = .ok (.iconst 1, 1) := by decide +kernel
theorem dX8_takeHouse_102 : decode cX8_takeHouse 102 = .ok (.if_icmp .eq 8, 3) := by decide +kernel
theorem dX8_takeHouse_105 : decode cX8_takeHouse 105 = .ok (.iload_n 1, 1) := by decide +kernel
theorem dX8_takeHouse_106 : decode cX8_takeHouse 106 = .ok (.iconst 2, 1) := by decide +kernel
theorem dX8_takeHouse_107 : decode cX8_takeHouse 107 = .ok (.if_icmp .ne 7, 3) := by decide +kernel
theorem dX8_takeHouse_110 : decode cX8_takeHouse 110 = .ok (.iconst 1, 1) := by decide +kernel
theorem dX8_takeHouse_111 : decode cX8_takeHouse 111 = .ok (.goto 4, 3) := by decide +kernel
theorem dX8_takeHouse_114 : decode cX8_takeHouse 114 = .ok (.iconst 0, 1) := by decide +kernel
theorem dX8_takeHouse_115 : decode cX8_takeHouse 115 = .ok (.iload_n 1, 1) := by decide +kernel
theorem dX8_takeHouse_116 : decode cX8_takeHouse 116 = .ok (.ifCond .ne 9, 3) := by decide +kernel
theorem dX8_takeHouse_119 : decode cX8_takeHouse 119 = .ok (.sipush 999, 3) := by decide +kernel
theorem dX8_takeHouse_122 : decode cX8_takeHouse 122 = .ok (.goto 15, 3) := by decide +kernel
theorem dX8_takeHouse_125 : decode cX8_takeHouse 125 = .ok (.iload_n 1, 1) := by decide +kernel
theorem dX8_takeHouse_126 : decode cX8_takeHouse 126 = .ok (.iconst 3, 1) := by decide +kernel
theorem dX8_takeHouse_127 : decode cX8_takeHouse 127 = .ok (.if_icmp .ne 8, 3) := by decide +kernel
theorem dX8_takeHouse_130 : decode cX8_takeHouse 130 = .ok (.bipush 99, 2) := by decide +kernel
theorem dX8_takeHouse_132 : decode cX8_takeHouse 132 = .ok (.goto 5, 3) := by decide +kernel
theorem dX8_takeHouse_135 : decode cX8_takeHouse 135 = .ok (.bipush 9, 2) := by decide +kernel
theorem dX8_takeHouse_137 : decode cX8_takeHouse 137 = .ok (.invokevirtual 191, 3) := by decide +kernel
theorem dX8_takeHouse_140 : decode cX8_takeHouse 140 = .ok (.istore_n 3, 1) := by decide +kernel
theorem dX8_takeHouse_141 : decode cX8_takeHouse 141 = .ok (.iload_n 3, 1) := by decide +kernel
theorem dX8_takeHouse_142 : decode cX8_takeHouse 142 = .ok (.ifCond .le 5, 3) := by decide +kernel
theorem dX8_takeHouse_145 : decode cX8_takeHouse 145 = .ok (.iload_n 3, 1) := by decide +kernel
theorem dX8_takeHouse_146 : decode cX8_takeHouse 146 = .ok (.ireturn, 1) := by decide +kernel
theorem dX8_takeHouse_147 : decode cX8_takeHouse 147 = .ok (.iload_n 1, 1) := by decide +kernel
theorem dX8_takeHouse_148 : decode cX8_takeHouse 148 = .ok (.ifCond .ne 106, 3) := by decide +kernel
theorem dX8_takeHouse_151 : decode cX8_takeHouse 151 = .ok (.aload_n 0, 1) := by decide +kernel
theorem dX8_takeHouse_152 : decode cX8_takeHouse 152 = .ok (.getfield 13, 3) := by decide +kernel
theorem dX8_takeHouse_155 : decode cX8_takeHouse 155 = .ok (.bipush 20, 2) := by decide +kernel
theorem dX8_takeHouse_157 : decode cX8_takeHouse 157 = .ok (.aload_n 0, 1) := by decide +kernel
theorem dX8_takeHouse_158 : decode cX8_takeHouse 158 = .ok (.getfield 7, 3) := by decide +kernel
theorem dX8_takeHouse_161 : decode cX8_takeHouse 161 = .ok (.iconst 2, 1) := by decide +kernel
theorem dX8_takeHouse_162 : decode cX8_takeHouse 162 = .ok (.iaload, 1) := by decide +kernel
theorem dX8_takeHouse_163 : decode cX8_takeHouse 163 = .ok (.iadd, 1) := by decide +kernel
theorem dX8_takeHouse_164 : decode cX8_takeHouse 164 = .ok (.aload_n 0, 1) := by decide +kernel
theorem dX8_takeHouse_165 : decode cX8_takeHouse 165 = .ok (.getfield 165, 3) := by decide +kernel
theorem dX8_takeHouse_168 : decode cX8_takeHouse 168 = .ok (.iastore, 1) := by decide +kernel
theorem dX8_takeHouse_169 : decode cX8_takeHouse 169 = .ok (.aload_n 0, 1) := by decide +kernel
theorem dX8_takeHouse_170 : decode cX8_takeHouse 170 = .ok (.invokevirtual 131, 3) := by decide +kernel
theorem dX8_takeHouse_173 : decode cX8_takeHouse 173 = .ok (.i2l, 1) := by decide +kernel
theorem dX8_takeHouse_174 : decode cX8_takeHouse 174 = .ok (.ldc2_w 142, 3) := by decide +kernel
theorem dX8_takeHouse_177 : decode cX8_takeHouse 177 = .ok (.ldc2_w 144, 3) := by decide +kernel
theorem dX8_takeHouse_180 : decode cX8_takeHouse 180 = .ok (.invokestatic 109, 3) := by decide +kernel
theorem dX8_takeHouse_183 : decode cX8_takeHouse 183 = .ok (.ifCond .eq 61, 3) := by decide +kernel
theorem dX8_takeHouse_186 : decode cX8_takeHouse 186 = .ok (.aload_n 0, 1) := by decide +kernel
theorem dX8_takeHouse_187 : decode cX8_takeHouse 187 = .ok (.invokevirtual 178, 3) := by decide +kernel
theorem dX8_takeHouse_190 : decode cX8_takeHouse 190 = .ok (.aload_n 0, 1) := by decide +kernel
theorem dX8_takeHouse_191 : decode cX8_takeHouse 191 = .ok (.getfield 135, 3) := by decide +kernel
theorem dX8_takeHouse_194 : decode cX8_takeHouse 194 = .ok (.bipush 107, 2) := by decide +kernel
theorem dX8_takeHouse_196 : decode cX8_takeHouse 196 = .ok (.bipush 101, 2) := by decide +kernel
theorem dX8_takeHouse_198 : decode cX8_takeHouse 198 = .ok (.bipush 112, 2) := by decide +kernel
theorem dX8_takeHouse_200 : decode cX8_takeHouse 200 = .ok (.bipush 116, 2) := by decide +kernel
theorem dX8_takeHouse_202 : decode cX8_takeHouse 202 = .ok (.invokestatic 170, 3) := by decide +kernel
theorem dX8_takeHouse_205 : decode cX8_takeHouse 205 = .ok (.lcmp, 1) := by decide +kernel
theorem dX8_takeHouse_206 : decode cX8_takeHouse 206 = .ok (.ifCond .eq 13, 3) := by decide +kernel
theorem dX8_takeHouse_209 : decode cX8_takeHouse 209 = .ok (.aload_n 0, 1) := by decide +kernel
theorem dX8_takeHouse_210 : decode cX8_takeHouse 210 = .ok (.iconst 1, 1) := by decide +kernel
theorem dX8_takeHouse_211 : decode cX8_takeHouse 211 = .ok (.aload_n 0, 1) := by decide +kernel
theorem dX8_takeHouse_212 : decode cX8_takeHouse 212 = .ok (.getfield 128, 3) := by decide +kernel
theorem dX8_takeHouse_215 : decode cX8_takeHouse 215 = .ok (.invokevirtual 158, 3) := by decide +kernel
theorem dX8_takeHouse_218 : decode cX8_takeHouse 218 = .ok (.ireturn, 1) := by decide +kernel
theorem dX8_takeHouse_219 : decode cX8_takeHouse 219 = .ok (.aload_n 0, 1) := by decide +kernel
theorem dX8_takeHouse_220 : decode cX8_takeHouse 220 = .ok (.aload_n 0, 1) := by decide +kernel
theorem dX8_takeHouse_221 : decode cX8_takeHouse 221 = .ok (.getfield 139, 3) := by decide +kernel
theorem dX8_takeHouse_224 : decode cX8_takeHouse 224 = .ok (.putfield 128, 3) := by decide +kernel
theorem dX8_takeHouse_227 : decode cX8_takeHouse 227 = .ok (.aload_n 0, 1) := by decide +kernel
theorem dX8_takeHouse_228 : decode cX8_takeHouse 228 = .ok (.getfield 16, 3) := by decide +kernel
theorem dX8_takeHouse_231 : decode cX8_takeHouse 231 = .ok (.iconst 2, 1) := by decide +kernel
theorem dX8_takeHouse_232 : decode cX8_takeHouse 232 = .ok (.dup2, 1) := by decide +kernel
theorem dX8_takeHouse_233 : decode cX8_takeHouse 233 = .ok (.iaload, 1) := by decide +kernel
theorem dX8_takeHouse_234 : decode cX8_takeHouse 234 = .ok (.iconst 1, 1) := by decide +kernel
theorem dX8_takeHouse_235 : decode cX8_takeHouse 235 = .ok (.aload_n 0, 1) := by decide +kernel
theorem dX8_takeHouse_236 : decode cX8_takeHouse 236 = .ok (.getfield 7, 3) := by decide +kernel
theorem dX8_takeHouse_239 : decode cX8_takeHouse 239 = .ok (.iconst 2, 1) := by decide +kernel
theorem dX8_takeHouse_240 : decode cX8_takeHouse 240 = .ok (.iaload, 1) := by decide +kernel
theorem dX8_takeHouse_241 : decode cX8_takeHouse 241 = .ok (.ishl, 1) := by decide +kernel
theorem dX8_takeHouse_242 : decode cX8_takeHouse 242 = .ok (.ior, 1) := by decide +kernel
theorem dX8_takeHouse_243 : decode cX8_takeHouse 243 = .ok (.iastore, 1) := by decide +kernel
theorem dX8_takeHouse_244 : decode cX8_takeHouse 244 = .ok (.aload_n 0, 1) := by decide +kernel
theorem dX8_takeHouse_245 : decode cX8_takeHouse 245 = .ok (.getfield 7, 3) := by decide +kernel
theorem dX8_takeHouse_248 : decode cX8_takeHouse 248 = .ok (.iconst 2, 1) := by decide +kernel
theorem dX8_takeHouse_249 : decode cX8_takeHouse 249 = .ok (.dup2, 1) := by decide +kernel
theorem dX8_takeHouse_250 : decode cX8_takeHouse 250 = .ok (.iaload, 1) := by decide +kernel
theorem dX8_takeHouse_251 : decode cX8_takeHouse 251 = .ok (.iconst 1, 1) := by decide +kernel
theorem dX8_takeHouse_252 : decode cX8_takeHouse 252 = .ok (.iadd, 1) := by decide +kernel
theorem dX8_takeHouse_253 : decode cX8_takeHouse 253 = .ok (.iastore, 1) := by decide +kernel
theorem dX8_takeHouse_254 : decode cX8_takeHouse 254 = .ok (.aload_n 0, 1) := by decide +kernel
theorem dX8_takeHouse_255 : decode cX8_takeHouse 255 = .ok (.getfield 22, 3) := by decide +kernel
theorem dX8_takeHouse_258 : decode cX8_takeHouse 258 = .ok (.iconst 2, 1) := by decide +kernel
theorem dX8_takeHouse_259 : decode cX8_takeHouse 259 = .ok (.iload_n 1, 1) := by decide +kernel
theorem dX8_takeHouse_260 : decode cX8_takeHouse 260 = .ok (.iconst 1, 1) := by decide +kernel
theorem dX8_takeHouse_261 : decode cX8_takeHouse 261 = .ok (.if_icmp .ne 10, 3) := by decide +kernel
theorem dX8_takeHouse_264 : decode cX8_takeHouse 264 = .ok (.aload_n 0, 1) := by decide +kernel
theorem dX8_takeHouse_265 : decode cX8_takeHouse 265 = .ok (.getfield 165, 3) := by decide +kernel
theorem dX8_takeHouse_268 : decode cX8_takeHouse 268 = .ok (.goto 9, 3) := by decide +kernel
theorem dX8_takeHouse_271 : decode cX8_takeHouse 271 = .ok (.aload_n 0, 1) := by decide +kernel
theorem dX8_takeHouse_272 : decode cX8_takeHouse 272 = .ok (.getfield 22, 3) := by decide +kernel
theorem dX8_takeHouse_275 : decode cX8_takeHouse 275 = .ok (.iconst 2, 1) := by decide +kernel
theorem dX8_takeHouse_276 : decode cX8_takeHouse 276 = .ok (.iaload, 1) := by decide +kernel
theorem dX8_takeHouse_277 : decode cX8_takeHouse 277 = .ok (.iastore, 1) := by decide +kernel
theorem dX8_takeHouse_278 : decode cX8_takeHouse 278 = .ok (.aload_n 0, 1) := by decide +kernel
theorem dX8_takeHouse_279 : decode cX8_takeHouse 279 = .ok (.getfield 19, 3) := by decide +kernel
theorem dX8_takeHouse_282 : decode cX8_takeHouse 282 = .ok (.iconst 2, 1) := by decide +kernel
theorem dX8_takeHouse_283 : decode cX8_takeHouse 283 = .ok (.iload_n 1, 1) := by decide +kernel
theorem dX8_takeHouse_284 : decode cX8_takeHouse 284 = .ok (.iconst 2, 1) := by decide +kernel
theorem dX8_takeHouse_285 : decode cX8_takeHouse 285 = .ok (.if_icmp .ne 10, 3) := by decide +kernel
theorem dX8_takeHouse_288 : decode cX8_takeHouse 288 = .ok (.aload_n 0, 1) := by decide +kernel
theorem dX8_takeHouse_289 : decode cX8_takeHouse 289 = .ok (.getfield 165, 3) := by decide +kernel
theorem dX8_takeHouse_292 : decode cX8_takeHouse 292 = .ok (.goto 9, 3) := by decide +kernel
theorem dX8_takeHouse_295 : decode cX8_takeHouse 295 = .ok (.aload_n 0, 1) := by decide +kernel
theorem dX8_takeHouse_296 : decode cX8_takeHouse 296 = .ok (.getfield 19, 3) := by decide +kernel
theorem dX8_takeHouse_299 : decode cX8_takeHouse 299 = .ok (.iconst 2, 1) := by decide +kernel
theorem dX8_takeHouse_300 : decode cX8_takeHouse 300 = .ok (.iaload, 1) := by decide +kernel
theorem dX8_takeHouse_301 : decode cX8_takeHouse 301 = .ok (.iastore, 1) := by decide +kernel
theorem dX8_takeHouse_302 : decode cX8_takeHouse 302 = .ok (.aload_n 0, 1) := by decide +kernel
theorem dX8_takeHouse_303 : decode cX8_takeHouse 303 = .ok (.getfield 25, 3) := by decide +kernel
theorem dX8_takeHouse_306 : decode cX8_takeHouse 306 = .ok (.iconst 2, 1) := by decide +kernel
theorem dX8_takeHouse_307 : decode cX8_takeHouse 307 = .ok (.iload_n 1, 1) := by decide +kernel
theorem dX8_takeHouse_308 : decode cX8_takeHouse 308 = .ok (.iconst 3, 1) := by decide +kernel
theorem dX8_takeHouse_309 : decode cX8_takeHouse 309 = .ok (.if_icmp .ne 10, 3) := by decide +kernel
theorem dX8_takeHouse_312 : decode cX8_takeHouse 312 = .ok (.aload_n 0, 1) := by decide +kernel
theorem dX8_takeHouse_313 : decode cX8_takeHouse 313 = .ok (.getfield 165, 3) := by decide +kernel
theorem dX8_takeHouse_316 : decode cX8_takeHouse 316 = .ok (.goto 9, 3) := by decide +kernel
theorem dX8_takeHouse_319 : decode cX8_takeHouse 319 = .ok (.aload_n 0, 1) := by decide +kernel
theorem dX8_takeHouse_320 : decode cX8_takeHouse 320 = .ok (.getfield 25, 3) := by decide +kernel
theorem dX8_takeHouse_323 : decode cX8_takeHouse 323 = .ok (.iconst 2, 1) := by decide +kernel
theorem dX8_takeHouse_324 : decode cX8_takeHouse 324 = .ok (.iaload, 1) := by decide +kernel
theorem dX8_takeHouse_325 : decode cX8_takeHouse 325 = .ok (.iastore, 1) := by decide +kernel
theorem dX8_takeHouse_326 : decode cX8_takeHouse 326 = .ok (.aload_n 0, 1) := by decide +kernel
theorem dX8_takeHouse_327 : decode cX8_takeHouse 327 = .ok (.getfield 28, 3) := by decide +kernel
theorem dX8_takeHouse_330 : decode cX8_takeHouse 330 = .ok (.iconst 2, 1) := by decide +kernel
theorem dX8_takeHouse_331 : decode cX8_takeHouse 331 = .ok (.iload_n 1, 1) := by decide +kernel
theorem dX8_takeHouse_332 : decode cX8_takeHouse 332 = .ok (.iconst 4, 1) := by decide +kernel
theorem dX8_takeHouse_333 : decode cX8_takeHouse 333 = .ok (.if_icmp .ne 10, 3) := by decide +kernel
theorem dX8_takeHouse_336 : decode cX8_takeHouse 336 = .ok (.aload_n 0, 1) := by decide +kernel
theorem dX8_takeHouse_337 : decode cX8_takeHouse 337 = .ok (.getfield 165, 3) := by decide +kernel
theorem dX8_takeHouse_340 : decode cX8_takeHouse 340 = .ok (.goto 9, 3) := by decide +kernel
theorem dX8_takeHouse_343 : decode cX8_takeHouse 343 = .ok (.aload_n 0, 1) := by decide +kernel
theorem dX8_takeHouse_344 : decode cX8_takeHouse 344 = .ok (.getfield 28, 3) := by decide +kernel
theorem dX8_takeHouse_347 : decode cX8_takeHouse 347 = .ok (.iconst 2, 1) := by decide +kernel
theorem dX8_takeHouse_348 : decode cX8_takeHouse 348 = .ok (.iaload, 1) := by decide +kernel
theorem dX8_takeHouse_349 : decode cX8_takeHouse 349 = .ok (.iastore, 1) := by decide +kernel
theorem dX8_takeHouse_350 : decode cX8_takeHouse 350 = .ok (.aload_n 0, 1) := by decide +kernel
theorem dX8_takeHouse_351 : decode cX8_takeHouse 351 = .ok (.invokevirtual 194, 3) := by decide +kernel
theorem dX8_takeHouse_354 : decode cX8_takeHouse 354 = .ok (.ireturn, 1) := by decide +kernel
theorem dX8_copyHouse_0 : decode cX8_copyHouse 0 = .ok (.aload_n 0, 1) := by decide +kernel
theorem dX8_copyHouse_1 : decode cX8_copyHouse 1 = .ok (.getfield 7, 3) := by decide +kernel
theorem dX8_copyHouse_4 : decode cX8_copyHouse 4 = .ok (.iload_n 2, 1) := by decide +kernel
theorem dX8_copyHouse_5 : decode cX8_copyHouse 5 = .ok (.aload_n 0, 1) := by decide +kernel
theorem dX8_copyHouse_6 : decode cX8_copyHouse 6 = .ok (.getfield 7, 3) := by decide +kernel
theorem dX8_copyHouse_9 : decode cX8_copyHouse 9 = .ok (.iload_n 1, 1) := by decide +kernel
theorem dX8_copyHouse_10 : decode cX8_copyHouse 10 = .ok (.iaload, 1) := by decide +kernel
theorem dX8_copyHouse_11 : decode cX8_copyHouse 11 = .ok (.iastore, 1) := by decide +kernel
theorem dX8_copyHouse_12 : decode cX8_copyHouse 12 = .ok (.iconst 0, 1) := by decide +kernel
theorem dX8_copyHouse_13 : decode cX8_copyHouse 13 = .ok (.istore_n 3, 1) := by decide +kernel
theorem dX8_copyHouse_14 : decode cX8_copyHouse 14 = .ok (.iload_n 3, 1) := by decide +kernel
theorem dX8_copyHouse_15 : decode cX8_copyHouse 15 = .ok (.bipush 10, 2) := by decide +kernel
theorem dX8_copyHouse_17 : decode cX8_copyHouse 17 = .ok (.if_icmp .ge 31, 3) := by decide +kernel
theorem dX8_copyHouse_20 : decode cX8_copyHouse 20 = .ok (.aload_n 0, 1) := by decide +kernel
theorem dX8_copyHouse_21 : decode cX8_copyHouse 21 = .ok (.getfield 13, 3) := by decide +kernel
theorem dX8_copyHouse_24 : decode cX8_copyHouse 24 = .ok (.bipush 10, 2) := by decide +kernel
theorem dX8_copyHouse_26 : decode cX8_copyHouse 26 = .ok (.iload_n 2, 1) := by decide +kernel
theorem dX8_copyHouse_27 : decode cX8_copyHouse 27 = .ok (.imul, 1) := by decide +kernel
theorem dX8_copyHouse_28 : decode cX8_copyHouse 28 = .ok (.iload_n 3, 1) := by decide +kernel
theorem dX8_copyHouse_29 : decode cX8_copyHouse 29 = .ok (.iadd, 1) := by decide +kernel
theorem dX8_copyHouse_30 : decode cX8_copyHouse 30 = .ok (.aload_n 0, 1) := by decide +kernel
theorem dX8_copyHouse_31 : decode cX8_copyHouse 31 = .ok (.getfield 13, 3) := by decide +kernel
theorem dX8_copyHouse_34 : decode cX8_copyHouse 34 = .ok (.bipush 10, 2) := by decide +kernel
theorem dX8_copyHouse_36 : decode cX8_copyHouse 36 = .ok (.iload_n 1, 1) := by decide +kernel
theorem dX8_copyHouse_37 : decode cX8_copyHouse 37 = .ok (.imul, 1) := by decide +kernel
theorem dX8_copyHouse_38 : decode cX8_copyHouse 38 = .ok (.iload_n 3, 1) := by decide +kernel
theorem dX8_copyHouse_39 : decode cX8_copyHouse 39 = .ok (.iadd, 1) := by decide +kernel
theorem dX8_copyHouse_40 : decode cX8_copyHouse 40 = .ok (.iaload, 1) := by decide +kernel
theorem dX8_copyHouse_41 : decode cX8_copyHouse 41 = .ok (.iastore, 1) := by decide +kernel
theorem dX8_copyHouse_42 : decode cX8_copyHouse 42 = .ok (.iinc 3 1, 3) := by decide +kernel
theorem dX8_copyHouse_45 : decode cX8_copyHouse 45 = .ok (.goto (-31), 3) := by decide +kernel
theorem dX8_copyHouse_48 : decode cX8_copyHouse 48 = .ok (.aload_n 0, 1) := by decide +kernel
theorem dX8_copyHouse_49 : decode cX8_copyHouse 49 = .ok (.getfield 16, 3) := by decide +kernel
theorem dX8_copyHouse_52 : decode cX8_copyHouse 52 = .ok (.iload_n 2, 1) := by decide +kernel
theorem dX8_copyHouse_53 : decode cX8_copyHouse 53 = .ok (.aload_n 0, 1) := by decide +kernel
theorem dX8_copyHouse_54 : decode cX8_copyHouse 54 = .ok (.getfield 16, 3) := by decide +kernel
theorem dX8_copyHouse_57 : decode cX8_copyHouse 57 = .ok (.iload_n 1, 1) := by decide +kernel
theorem dX8_copyHouse_58 : decode cX8_copyHouse 58 = .ok (.iaload, 1) := by decide +kernel
theorem dX8_copyHouse_59 : decode cX8_copyHouse 59 = .ok (.iastore, 1) := by decide +kernel
theorem dX8_copyHouse_60 : decode cX8_copyHouse 60 = .ok (.aload_n 0, 1) := by decide +kernel
theorem dX8_copyHouse_61 : decode cX8_copyHouse 61 = .ok (.getfield 19, 3) := by decide +kernel
theorem dX8_copyHouse_64 : decode cX8_copyHouse 64 = .ok (.iload_n 2, 1) := by decide +kernel
theorem dX8_copyHouse_65 : decode cX8_copyHouse 65 = .ok (.aload_n 0, 1) := by decide +kernel
theorem dX8_copyHouse_66 : decode cX8_copyHouse 66 = .ok (.getfield 19, 3) := by decide +kernel
theorem dX8_copyHouse_69 : decode cX8_copyHouse 69 = .ok (.iload_n 1, 1) := by decide +kernel
theorem dX8_copyHouse_70 : decode cX8_copyHouse 70 = .ok (.iaload, 1) := by decide +kernel
theorem dX8_copyHouse_71 : decode cX8_copyHouse 71 = .ok (.iastore, 1) := by decide +kernel
theorem dX8_copyHouse_72 : decode cX8_copyHouse 72 = .ok (.aload_n 0, 1) := by decide +kernel
theorem dX8_copyHouse_73 : decode cX8_copyHouse 73 = .ok (.getfield 22, 3) := by decide +kernel
theorem dX8_copyHouse_76 : decode cX8_copyHouse 76 = .ok (.iload_n 2, 1) := by decide +kernel
theorem dX8_copyHouse_77 : decode cX8_copyHouse 77 = .ok (.aload_n 0, 1) := by decide +kernel
theorem dX8_copyHouse_78 : decode cX8_copyHouse 78 = .ok (.getfield 22, 3) := by decide +kernel
theorem dX8_copyHouse_81 : decode cX8_copyHouse 81 = .ok (.iload_n 1, 1) := by decide +kernel
theorem dX8_copyHouse_82 : decode cX8_copyHouse 82 = .ok (.iaload, 1) := by decide +kernel
theorem dX8_copyHouse_83 : decode cX8_copyHouse 83 = .ok (.iastore, 1) := by decide +kernel
theorem dX8_copyHouse_84 : decode cX8_copyHouse 84 = .ok (.aload_n 0, 1) := by decide +kernel
theorem dX8_copyHouse_85 : decode cX8_copyHouse 85 = .ok (.getfield 25, 3) := by decide +kernel
theorem dX8_copyHouse_88 : decode cX8_copyHouse 88 = .ok (.iload_n 2, 1) := by decide +kernel
theorem dX8_copyHouse_89 : decode cX8_copyHouse 89 = .ok (.aload_n 0, 1) := by decide +kernel
theorem dX8_copyHouse_90 : decode cX8_copyHouse 90 = .ok (.getfield 25, 3) := by decide +kernel
theorem dX8_copyHouse_93 : decode cX8_copyHouse 93 = .ok (.iload_n 1, 1) := by decide +kernel
theorem dX8_copyHouse_94 : decode cX8_copyHouse 94 = .ok (.iaload, 1) := by decide +kernel
theorem dX8_copyHouse_95 : decode cX8_copyHouse 95 = .ok (.iastore, 1) := by decide +kernel
theorem dX8_copyHouse_96 : decode cX8_copyHouse 96 = .ok (.aload_n 0, 1) := by decide +kernel
theorem dX8_copyHouse_97 : decode cX8_copyHouse 97 = .ok (.getfield 28, 3) := by decide +kernel
theorem dX8_copyHouse_100 : decode cX8_copyHouse 100 = .ok (.iload_n 2, 1) := by decide +kernel
theorem dX8_copyHouse_101 : decode cX8_copyHouse 101 = .ok (.aload_n 0, 1) := by decide +kernel
theorem dX8_copyHouse_102 : decode cX8_copyHouse 102 = .ok (.getfield 28, 3) := by decide +kernel
theorem dX8_copyHouse_105 : decode cX8_copyHouse 105 = .ok (.iload_n 1, 1) := by decide +kernel
theorem dX8_copyHouse_106 : decode cX8_copyHouse 106 = .ok (.iaload, 1) := by decide +kernel
theorem dX8_copyHouse_107 : decode cX8_copyHouse 107 = .ok (.iastore, 1) := by decide +kernel
theorem dX8_copyHouse_108 : decode cX8_copyHouse 108 = .ok (.return_, 1) := by decide +kernel
theorem dX8_house_0 : decode cX8_house 0 = .ok (.iload_n 1, 1) := by decide +kernel
theorem dX8_house_1 : decode cX8_house 1 = .ok (.i2l, 1) := by decide +kernel
theorem dX8_house_2 : decode cX8_house 2 = .ok (.lconst 0, 1) := by decide +kernel
theorem dX8_house_3 : decode cX8_house 3 = .ok (.lconst 1, 1) := by decide +kernel
theorem dX8_house_4 : decode cX8_house 4 = .ok (.invokestatic 109, 3) := by decide +kernel
theorem dX8_house_7 : decode cX8_house 7 = .ok (.ifCond .ne 6, 3) := by decide +kernel
theorem dX8_house_10 : decode cX8_house 10 = .ok (.ldc 197, 2) := by decide +kernel
theorem dX8_house_12 : decode cX8_house 12 = .ok (.ireturn, 1) := by decide +kernel
theorem dX8_house_13 : decode cX8_house 13 = .ok (.aload_n 0, 1) := by decide +kernel
theorem dX8_house_14 : decode cX8_house 14 = .ok (.iconst (-1), 1) := by decide +kernel
theorem dX8_house_15 : decode cX8_house 15 = .ok (.putfield 49, 3) := by decide +kernel
theorem dX8_house_18 : decode cX8_house 18 = .ok (.aload_n 0, 1) := by decide +kernel
theorem dX8_house_19 : decode cX8_house 19 = .ok (.iconst 0, 1) := by decide +kernel
theorem dX8_house_20 : decode cX8_house 20 = .ok (.putfield 128, 3) := by decide +kernel
theorem dX8_house_23 : decode cX8_house 23 = .ok (.aload_n 0, 1) := by decide +kernel
theorem dX8_house_24 : decode cX8_house 24 = .ok (.getfield 7, 3) := by decide +kernel
theorem dX8_house_27 : decode cX8_house 27 = .ok (.iconst 2, 1) := by decide +kernel
theorem dX8_house_28 : decode cX8_house 28 = .ok (.iconst 0, 1) := by decide +kernel
theorem dX8_house_29 : decode cX8_house 29 = .ok (.iastore, 1) := by decide +kernel
theorem dX8_house_30 : decode cX8_house 30 = .ok (.aload_n 0, 1) := by decide +kernel
theorem dX8_house_31 : decode cX8_house 31 = .ok (.getfield 16, 3) := by decide +kernel
theorem dX8_house_34 : decode cX8_house 34 = .ok (.iconst 2, 1) := by decide +kernel
theorem dX8_house_35 : decode cX8_house 35 = .ok (.iconst 0, 1) := by decide +kernel
theorem dX8_house_36 : decode cX8_house 36 = .ok (.iastore, 1) := by decide +kernel
theorem dX8_house_37 : decode cX8_house 37 = .ok (.aload_n 0, 1) := by decide +kernel
theorem dX8_house_38 : decode cX8_house 38 = .ok (.getfield 22, 3) := by decide +kernel
theorem dX8_house_41 : decode cX8_house 41 = .ok (.iconst 2, 1) := by decide +kernel
theorem dX8_house_42 : decode cX8_house 42 = .ok (.iconst 1, 1) := by decide +kernel
theorem dX8_house_43 : decode cX8_house 43 = .ok (.iastore, 1) := by decide +kernel
theorem dX8_house_44 : decode cX8_house 44 = .ok (.aload_n 0, 1) := by decide +kernel
theorem dX8_house_45 : decode cX8_house 45 = .ok (.getfield 19, 3) := by decide +kernel
theorem dX8_house_48 : decode cX8_house 48 = .ok (.iconst 2, 1) := by decide +kernel
theorem dX8_house_49 : decode cX8_house 49 = .ok (.iconst 3, 1) := by decide +kernel
theorem dX8_house_50 : decode cX8_house 50 = .ok (.iastore, 1) := by decide +kernel
theorem dX8_house_51 : decode cX8_house 51 = .ok (.aload_n 0, 1) := by decide +kernel
theorem dX8_house_52 : decode cX8_house 52 = .ok (.getfield 25, 3) := by decide +kernel
theorem dX8_house_55 : decode cX8_house 55 = .ok (.iconst 2, 1) := by decide +kernel
theorem dX8_house_56 : decode cX8_house 56 = .ok (.iconst 0, 1) := by decide +kernel
theorem dX8_house_57 : decode cX8_house 57 = .ok (.iastore, 1) := by decide +kernel
theorem dX8_house_58 : decode cX8_house 58 = .ok (.aload_n 0, 1) := by decide +kernel
theorem dX8_house_59 : decode cX8_house 59 = .ok (.getfield 28, 3) := by decide +kernel
theorem dX8_house_62 : decode cX8_house 62 = .ok (.iconst 2, 1) := by decide +kernel
theorem dX8_house_63 : decode cX8_house 63 = .ok (.iconst 0, 1) := by decide +kernel
theorem dX8_house_64 : decode cX8_house 64 = .ok (.iastore, 1) := by decide +kernel
theorem dX8_house_65 : decode cX8_house 65 = .ok (.aload_n 0, 1) := by decide +kernel
theorem dX8_house_66 : decode cX8_house 66 = .ok (.iconst 0, 1) := by decide +kernel
theorem dX8_house_67 : decode cX8_house 67 = .ok (.putfield 184, 3) := by decide +kernel
theorem dX8_house_70 : decode cX8_house 70 = .ok (.iconst 0, 1) := by decide +kernel
theorem dX8_house_71 : decode cX8_house 71 = .ok (.istore_n 2, 1) := by decide +kernel
theorem dX8_house_72 : decode cX8_house 72 = .ok (.iload_n 2, 1) := by decide +kernel
theorem dX8_house_73 : decode cX8_house 73 = .ok (.ifCond .ne 18, 3) := by decide +kernel
theorem dX8_house_76 : decode cX8_house 76 = .ok (.aload_n 0, 1) := by decide +kernel
theorem dX8_house_77 : decode cX8_house 77 = .ok (.invokevirtual 131, 3) := by decide +kernel
theorem dX8_house_80 : decode cX8_house 80 = .ok (.ifCond .lt 11, 3) := by decide +kernel
theorem dX8_house_83 : decode cX8_house 83 = .ok (.aload_n 0, 1) := by decide +kernel
theorem dX8_house_84 : decode cX8_house 84 = .ok (.invokevirtual 198, 3) := by decide +kernel
theorem dX8_house_87 : decode cX8_house 87 = .ok (.istore_n 2, 1) := by decide +kernel
theorem dX8_house_88 : decode cX8_house 88 = .ok (.goto (-16), 3) := by decide +kernel
theorem dX8_house_91 : decode cX8_house 91 = .ok (.iload_n 2, 1) := by decide +kernel
theorem dX8_house_92 : decode cX8_house 92 = .ok (.ifCond .ne 30, 3) := by decide +kernel
theorem dX8_house_95 : decode cX8_house 95 = .ok (.aload_n 0, 1) := by decide +kernel
theorem dX8_house_96 : decode cX8_house 96 = .ok (.getfield 28, 3) := by decide +kernel
theorem dX8_house_99 : decode cX8_house 99 = .ok (.iconst 2, 1) := by decide +kernel
theorem dX8_house_100 : decode cX8_house 100 = .ok (.iaload, 1) := by decide +kernel
theorem dX8_house_101 : decode cX8_house 101 = .ok (.aload_n 0, 1) := by decide +kernel
theorem dX8_house_102 : decode cX8_house 102 = .ok (.getfield 7, 3) := by decide +kernel
theorem dX8_house_105 : decode cX8_house 105 = .ok (.iconst 2, 1) := by decide +kernel
theorem dX8_house_106 : decode cX8_house 106 = .ok (.iaload, 1) := by decide +kernel
theorem dX8_house_107 : decode cX8_house 107 = .ok (.if_icmp .lt 15, 3) := by decide +kernel
theorem dX8_house_110 : decode cX8_house 110 = .ok (.aload_n 0, 1) := by decide +kernel
theorem dX8_house_111 : decode cX8_house 111 = .ok (.iconst 5, 1) := by decide +kernel
theorem dX8_house_112 : decode cX8_house 112 = .ok (.aload_n 0, 1) := by decide +kernel
theorem dX8_house_113 : decode cX8_house 113 = .ok (.getfield 122, 3) := by decide +kernel
theorem dX8_house_116 : decode cX8_house 116 = .ok (.invokevirtual 158, 3) := by decide +kernel
theorem dX8_house_119 : decode cX8_house 119 = .ok (.goto 4, 3) := by decide +kernel
theorem dX8_house_122 : decode cX8_house 122 = .ok (.iload_n 2, 1) := by decide +kernel
theorem dX8_house_123 : decode cX8_house 123 = .ok (.istore_n 2, 1) := by decide +kernel
theorem dX8_house_124 : decode cX8_house 124 = .ok (.aload_n 0, 1) := by decide +kernel
theorem dX8_house_125 : decode cX8_house 125 = .ok (.iconst 0, 1) := by decide +kernel
theorem dX8_house_126 : decode cX8_house 126 = .ok (.putfield 122, 3) := by decide +kernel
theorem dX8_house_129 : decode cX8_house 129 = .ok (.iload_n 2, 1) := by decide +kernel
theorem dX8_house_130 : decode cX8_house 130 = .ok (.ifCond .le 8, 3) := by decide +kernel
theorem dX8_house_133 : decode cX8_house 133 = .ok (.bipush (-10), 2) := by decide +kernel
theorem dX8_house_135 : decode cX8_house 135 = .ok (.iload_n 2, 1) := by decide +kernel
theorem dX8_house_136 : decode cX8_house 136 = .ok (.isub, 1) := by decide +kernel
theorem dX8_house_137 : decode cX8_house 137 = .ok (.ireturn, 1) := by decide +kernel
theorem dX8_house_138 : decode cX8_house 138 = .ok (.aload_n 0, 1) := by decide +kernel
theorem dX8_house_139 : decode cX8_house 139 = .ok (.iconst 2, 1) := by decide +kernel
theorem dX8_house_140 : decode cX8_house 140 = .ok (.iload_n 1, 1) := by decide +kernel
theorem dX8_house_141 : decode cX8_house 141 = .ok (.invokevirtual 201, 3) := by decide +kernel
theorem dX8_house_144 : decode cX8_house 144 = .ok (.aload_n 0, 1) := by decide +kernel
theorem dX8_house_145 : decode cX8_house 145 = .ok (.iconst 0, 1) := by decide +kernel
theorem dX8_house_146 : decode cX8_house 146 = .ok (.putfield 205, 3) := by decide +kernel
theorem dX8_house_149 : decode cX8_house 149 = .ok (.aload_n 0, 1) := by decide +kernel
theorem dX8_house_150 : decode cX8_house 150 = .ok (.getfield 7, 3) := by decide +kernel
theorem dX8_house_153 : decode cX8_house 153 = .ok (.iload_n 1, 1) := by decide +kernel
theorem dX8_house_154 : decode cX8_house 154 = .ok (.iaload, 1) := by decide +kernel
theorem dX8_house_155 : decode cX8_house 155 = .ok (.ireturn, 1) := by decide +kernel
theorem dX8_fault_0 : decode cX8_fault 0 = .ok (.aload_n 0, 1) := by decide +kernel
theorem dX8_fault_1 : decode cX8_fault 1 = .ok (.getfield 49, 3) := by decide +kernel
theorem dX8_fault_4 : decode cX8_fault 4 = .ok (.ireturn, 1) := by decide +kernel
theorem dX8_told_0 : decode cX8_told 0 = .ok (.aload_n 0, 1) := by decide +kernel
theorem dX8_told_1 : decode cX8_told 1 = .ok (.iload_n 1, 1) := by decide +kernel
theorem dX8_told_2 : decode cX8_told 2 = .ok (.invokevirtual 113, 3) := by decide +kernel
theorem dX8_told_5 : decode cX8_told 5 = .ok (.ifCond .ne 6, 3) := by decide +kernel
theorem dX8_told_8 : decode cX8_told 8 = .ok (.ldc 197, 2) := by decide +kernel
theorem dX8_told_10 : decode cX8_told 10 = .ok (.ireturn, 1) := by decide +kernel
theorem dX8_told_11 : decode cX8_told 11 = .ok (.iload_n 2, 1) := by decide +kernel
theorem dX8_told_12 : decode cX8_told 12 = .ok (.tableswitch 82 0 5 #[40, 47, 54, 61, 68, 75], 40) := by decide +kernel
theorem dX8_told_52 : decode cX8_told 52 = .ok (.aload_n 0, 1) := by decide +kernel
theorem dX8_told_53 : decode cX8_told 53 = .ok (.getfield 7, 3) := by decide +kernel
theorem dX8_told_56 : decode cX8_told 56 = .ok (.iload_n 1, 1) := by decide +kernel
theorem dX8_told_57 : decode cX8_told 57 = .ok (.iaload, 1) := by decide +kernel
theorem dX8_told_58 : decode cX8_told 58 = .ok (.ireturn, 1) := by decide +kernel
theorem dX8_told_59 : decode cX8_told 59 = .ok (.aload_n 0, 1) := by decide +kernel
theorem dX8_told_60 : decode cX8_told 60 = .ok (.getfield 22, 3) := by decide +kernel
theorem dX8_told_63 : decode cX8_told 63 = .ok (.iload_n 1, 1) := by decide +kernel
theorem dX8_told_64 : decode cX8_told 64 = .ok (.iaload, 1) := by decide +kernel
theorem dX8_told_65 : decode cX8_told 65 = .ok (.ireturn, 1) := by decide +kernel
theorem dX8_told_66 : decode cX8_told 66 = .ok (.aload_n 0, 1) := by decide +kernel
theorem dX8_told_67 : decode cX8_told 67 = .ok (.getfield 19, 3) := by decide +kernel
theorem dX8_told_70 : decode cX8_told 70 = .ok (.iload_n 1, 1) := by decide +kernel
theorem dX8_told_71 : decode cX8_told 71 = .ok (.iaload, 1) := by decide +kernel
theorem dX8_told_72 : decode cX8_told 72 = .ok (.ireturn, 1) := by decide +kernel
theorem dX8_told_73 : decode cX8_told 73 = .ok (.aload_n 0, 1) := by decide +kernel
theorem dX8_told_74 : decode cX8_told 74 = .ok (.getfield 25, 3) := by decide +kernel
theorem dX8_told_77 : decode cX8_told 77 = .ok (.iload_n 1, 1) := by decide +kernel
theorem dX8_told_78 : decode cX8_told 78 = .ok (.iaload, 1) := by decide +kernel
theorem dX8_told_79 : decode cX8_told 79 = .ok (.ireturn, 1) := by decide +kernel
theorem dX8_told_80 : decode cX8_told 80 = .ok (.aload_n 0, 1) := by decide +kernel
theorem dX8_told_81 : decode cX8_told 81 = .ok (.getfield 28, 3) := by decide +kernel
theorem dX8_told_84 : decode cX8_told 84 = .ok (.iload_n 1, 1) := by decide +kernel
theorem dX8_told_85 : decode cX8_told 85 = .ok (.iaload, 1) := by decide +kernel
theorem dX8_told_86 : decode cX8_told 86 = .ok (.ireturn, 1) := by decide +kernel
theorem dX8_told_87 : decode cX8_told 87 = .ok (.aload_n 0, 1) := by decide +kernel
theorem dX8_told_88 : decode cX8_told 88 = .ok (.getfield 16, 3) := by decide +kernel
theorem dX8_told_91 : decode cX8_told 91 = .ok (.iload_n 1, 1) := by decide +kernel
theorem dX8_told_92 : decode cX8_told 92 = .ok (.iaload, 1) := by decide +kernel
theorem dX8_told_93 : decode cX8_told 93 = .ok (.ireturn, 1) := by decide +kernel
theorem dX8_told_94 : decode cX8_told 94 = .ok (.ldc 121, 2) := by decide +kernel
theorem dX8_told_96 : decode cX8_told 96 = .ok (.ireturn, 1) := by decide +kernel
theorem dX8_pays_0 : decode cX8_pays 0 = .ok (.aload_n 0, 1) := by decide +kernel
theorem dX8_pays_1 : decode cX8_pays 1 = .ok (.iload_n 1, 1) := by decide +kernel
theorem dX8_pays_2 : decode cX8_pays 2 = .ok (.iload_n 2, 1) := by decide +kernel
theorem dX8_pays_3 : decode cX8_pays 3 = .ok (.invokevirtual 209, 3) := by decide +kernel
theorem dX8_pays_6 : decode cX8_pays 6 = .ok (.ifCond .eq 17, 3) := by decide +kernel
theorem dX8_pays_9 : decode cX8_pays 9 = .ok (.aload_n 0, 1) := by decide +kernel
theorem dX8_pays_10 : decode cX8_pays 10 = .ok (.getfield 13, 3) := by decide +kernel
theorem dX8_pays_13 : decode cX8_pays 13 = .ok (.bipush 10, 2) := by decide +kernel
theorem dX8_pays_15 : decode cX8_pays 15 = .ok (.iload_n 1, 1) := by decide +kernel
theorem dX8_pays_16 : decode cX8_pays 16 = .ok (.imul, 1) := by decide +kernel
theorem dX8_pays_17 : decode cX8_pays 17 = .ok (.iload_n 2, 1) := by decide +kernel
theorem dX8_pays_18 : decode cX8_pays 18 = .ok (.iadd, 1) := by decide +kernel
theorem dX8_pays_19 : decode cX8_pays 19 = .ok (.iaload, 1) := by decide +kernel
theorem dX8_pays_20 : decode cX8_pays 20 = .ok (.goto 5, 3) := by decide +kernel
theorem dX8_pays_23 : decode cX8_pays 23 = .ok (.ldc 197, 2) := by decide +kernel
theorem dX8_pays_25 : decode cX8_pays 25 = .ok (.ireturn, 1) := by decide +kernel
theorem dX8_nextOf_0 : decode cX8_nextOf 0 = .ok (.iload_n 3, 1) := by decide +kernel
theorem dX8_nextOf_1 : decode cX8_nextOf 1 = .ok (.ifCond .ne 40, 3) := by decide +kernel
theorem dX8_nextOf_4 : decode cX8_nextOf 4 = .ok (.iload_n 2, 1) := by decide +kernel
theorem dX8_nextOf_5 : decode cX8_nextOf 5 = .ok (.aload_n 0, 1) := by decide +kernel
theorem dX8_nextOf_6 : decode cX8_nextOf 6 = .ok (.getfield 22, 3) := by decide +kernel
theorem dX8_nextOf_9 : decode cX8_nextOf 9 = .ok (.iload_n 1, 1) := by decide +kernel
theorem dX8_nextOf_10 : decode cX8_nextOf 10 = .ok (.iaload, 1) := by decide +kernel
theorem dX8_nextOf_11 : decode cX8_nextOf 11 = .ok (.iadd, 1) := by decide +kernel
theorem dX8_nextOf_12 : decode cX8_nextOf 12 = .ok (.aload_n 0, 1) := by decide +kernel
theorem dX8_nextOf_13 : decode cX8_nextOf 13 = .ok (.getfield 7, 3) := by decide +kernel
theorem dX8_nextOf_16 : decode cX8_nextOf 16 = .ok (.iload_n 1, 1) := by decide +kernel
theorem dX8_nextOf_17 : decode cX8_nextOf 17 = .ok (.iaload, 1) := by decide +kernel
theorem dX8_nextOf_18 : decode cX8_nextOf 18 = .ok (.if_icmp .ge 14, 3) := by decide +kernel
theorem dX8_nextOf_21 : decode cX8_nextOf 21 = .ok (.iload_n 2, 1) := by decide +kernel
theorem dX8_nextOf_22 : decode cX8_nextOf 22 = .ok (.aload_n 0, 1) := by decide +kernel
theorem dX8_nextOf_23 : decode cX8_nextOf 23 = .ok (.getfield 22, 3) := by decide +kernel
theorem dX8_nextOf_26 : decode cX8_nextOf 26 = .ok (.iload_n 1, 1) := by decide +kernel
theorem dX8_nextOf_27 : decode cX8_nextOf 27 = .ok (.iaload, 1) := by decide +kernel
theorem dX8_nextOf_28 : decode cX8_nextOf 28 = .ok (.iadd, 1) := by decide +kernel
theorem dX8_nextOf_29 : decode cX8_nextOf 29 = .ok (.goto 11, 3) := by decide +kernel
theorem dX8_nextOf_32 : decode cX8_nextOf 32 = .ok (.aload_n 0, 1) := by decide +kernel
theorem dX8_nextOf_33 : decode cX8_nextOf 33 = .ok (.getfield 7, 3) := by decide +kernel
theorem dX8_nextOf_36 : decode cX8_nextOf 36 = .ok (.iload_n 1, 1) := by decide +kernel
theorem dX8_nextOf_37 : decode cX8_nextOf 37 = .ok (.iaload, 1) := by decide +kernel
theorem dX8_nextOf_38 : decode cX8_nextOf 38 = .ok (.iconst 1, 1) := by decide +kernel
theorem dX8_nextOf_39 : decode cX8_nextOf 39 = .ok (.isub, 1) := by decide +kernel
theorem dX8_nextOf_40 : decode cX8_nextOf 40 = .ok (.ireturn, 1) := by decide +kernel
theorem dX8_nextOf_41 : decode cX8_nextOf 41 = .ok (.aload_n 0, 1) := by decide +kernel
theorem dX8_nextOf_42 : decode cX8_nextOf 42 = .ok (.getfield 19, 3) := by decide +kernel
theorem dX8_nextOf_45 : decode cX8_nextOf 45 = .ok (.iload_n 1, 1) := by decide +kernel
theorem dX8_nextOf_46 : decode cX8_nextOf 46 = .ok (.iaload, 1) := by decide +kernel
theorem dX8_nextOf_47 : decode cX8_nextOf 47 = .ok (.aload_n 0, 1) := by decide +kernel
theorem dX8_nextOf_48 : decode cX8_nextOf 48 = .ok (.getfield 16, 3) := by decide +kernel
theorem dX8_nextOf_51 : decode cX8_nextOf 51 = .ok (.iload_n 1, 1) := by decide +kernel
theorem dX8_nextOf_52 : decode cX8_nextOf 52 = .ok (.iaload, 1) := by decide +kernel
theorem dX8_nextOf_53 : decode cX8_nextOf 53 = .ok (.iload_n 2, 1) := by decide +kernel
theorem dX8_nextOf_54 : decode cX8_nextOf 54 = .ok (.invokestatic 187, 3) := by decide +kernel
theorem dX8_nextOf_57 : decode cX8_nextOf 57 = .ok (.ifCond .eq 9, 3) := by decide +kernel
theorem dX8_nextOf_60 : decode cX8_nextOf 60 = .ok (.iload_n 3, 1) := by decide +kernel
theorem dX8_nextOf_61 : decode cX8_nextOf 61 = .ok (.iconst 1, 1) := by decide +kernel
theorem dX8_nextOf_62 : decode cX8_nextOf 62 = .ok (.isub, 1) := by decide +kernel
theorem dX8_nextOf_63 : decode cX8_nextOf 63 = .ok (.goto 4, 3) := by decide +kernel
theorem dX8_nextOf_66 : decode cX8_nextOf 66 = .ok (.iload_n 3, 1) := by decide +kernel
theorem dX8_nextOf_67 : decode cX8_nextOf 67 = .ok (.imul, 1) := by decide +kernel
theorem dX8_nextOf_68 : decode cX8_nextOf 68 = .ok (.istore 4, 2) := by decide +kernel
theorem dX8_nextOf_70 : decode cX8_nextOf 70 = .ok (.iload_n 2, 1) := by decide +kernel
theorem dX8_nextOf_71 : decode cX8_nextOf 71 = .ok (.iload 4, 2) := by decide +kernel
theorem dX8_nextOf_73 : decode cX8_nextOf 73 = .ok (.isub, 1) := by decide +kernel
theorem dX8_nextOf_74 : decode cX8_nextOf 74 = .ok (.ifCond .ge 7, 3) := by decide +kernel
theorem dX8_nextOf_77 : decode cX8_nextOf 77 = .ok (.iconst 0, 1) := by decide +kernel
theorem dX8_nextOf_78 : decode cX8_nextOf 78 = .ok (.goto 7, 3) := by decide +kernel
theorem dX8_nextOf_81 : decode cX8_nextOf 81 = .ok (.iload_n 2, 1) := by decide +kernel
theorem dX8_nextOf_82 : decode cX8_nextOf 82 = .ok (.iload 4, 2) := by decide +kernel
theorem dX8_nextOf_84 : decode cX8_nextOf 84 = .ok (.isub, 1) := by decide +kernel
theorem dX8_nextOf_85 : decode cX8_nextOf 85 = .ok (.ireturn, 1) := by decide +kernel
theorem dX8_next_0 : decode cX8_next 0 = .ok (.aload_n 0, 1) := by decide +kernel
theorem dX8_next_1 : decode cX8_next 1 = .ok (.iload_n 1, 1) := by decide +kernel
theorem dX8_next_2 : decode cX8_next 2 = .ok (.iload_n 2, 1) := by decide +kernel
theorem dX8_next_3 : decode cX8_next 3 = .ok (.invokevirtual 209, 3) := by decide +kernel
theorem dX8_next_6 : decode cX8_next 6 = .ok (.ifCond .ne 6, 3) := by decide +kernel
theorem dX8_next_9 : decode cX8_next 9 = .ok (.ldc 197, 2) := by decide +kernel
theorem dX8_next_11 : decode cX8_next 11 = .ok (.ireturn, 1) := by decide +kernel
theorem dX8_next_12 : decode cX8_next 12 = .ok (.iload_n 3, 1) := by decide +kernel
theorem dX8_next_13 : decode cX8_next 13 = .ok (.i2l, 1) := by decide +kernel
theorem dX8_next_14 : decode cX8_next 14 = .ok (.lconst 0, 1) := by decide +kernel
theorem dX8_next_15 : decode cX8_next 15 = .ok (.ldc2_w 212, 3) := by decide +kernel
theorem dX8_next_18 : decode cX8_next 18 = .ok (.invokestatic 109, 3) := by decide +kernel
theorem dX8_next_21 : decode cX8_next 21 = .ok (.ifCond .eq 13, 3) := by decide +kernel
theorem dX8_next_24 : decode cX8_next 24 = .ok (.aload_n 0, 1) := by decide +kernel
theorem dX8_next_25 : decode cX8_next 25 = .ok (.iload_n 1, 1) := by decide +kernel
theorem dX8_next_26 : decode cX8_next 26 = .ok (.iload_n 2, 1) := by decide +kernel
theorem dX8_next_27 : decode cX8_next 27 = .ok (.iload_n 3, 1) := by decide +kernel
theorem dX8_next_28 : decode cX8_next 28 = .ok (.invokevirtual 214, 3) := by decide +kernel
theorem dX8_next_31 : decode cX8_next 31 = .ok (.goto 5, 3) := by decide +kernel
theorem dX8_next_34 : decode cX8_next 34 = .ok (.ldc 121, 2) := by decide +kernel
theorem dX8_next_36 : decode cX8_next 36 = .ok (.ireturn, 1) := by decide +kernel
theorem dX8_takeScrape_0 : decode cX8_takeScrape 0 = .ok (.aload_n 0, 1) := by decide +kernel
theorem dX8_takeScrape_1 : decode cX8_takeScrape 1 = .ok (.getfield 31, 3) := by decide +kernel
theorem dX8_takeScrape_4 : decode cX8_takeScrape 4 = .ok (.aload_n 0, 1) := by decide +kernel
theorem dX8_takeScrape_5 : decode cX8_takeScrape 5 = .ok (.getfield 106, 3) := by decide +kernel
theorem dX8_takeScrape_8 : decode cX8_takeScrape 8 = .ok (.iaload, 1) := by decide +kernel
theorem dX8_takeScrape_9 : decode cX8_takeScrape 9 = .ok (.istore_n 1, 1) := by decide +kernel
theorem dX8_takeScrape_10 : decode cX8_takeScrape 10 = .ok (.iload_n 1, 1) := by decide +kernel
theorem dX8_takeScrape_11 : decode cX8_takeScrape 11 = .ok (.bipush 8, 2) := by decide +kernel
theorem dX8_takeScrape_13 : decode cX8_takeScrape 13 = .ok (.if_icmp .ne 13, 3) := by decide +kernel
theorem dX8_takeScrape_16 : decode cX8_takeScrape 16 = .ok (.aload_n 0, 1) := by decide +kernel
theorem dX8_takeScrape_17 : decode cX8_takeScrape 17 = .ok (.iconst 3, 1) := by decide +kernel
theorem dX8_takeScrape_18 : decode cX8_takeScrape 18 = .ok (.aload_n 0, 1) := by decide +kernel
theorem dX8_takeScrape_19 : decode cX8_takeScrape 19 = .ok (.getfield 128, 3) := by decide +kernel
theorem dX8_takeScrape_22 : decode cX8_takeScrape 22 = .ok (.invokevirtual 158, 3) := by decide +kernel
theorem dX8_takeScrape_25 : decode cX8_takeScrape 25 = .ok (.ireturn, 1) := by decide +kernel
theorem dX8_takeScrape_26 : decode cX8_takeScrape 26 = .ok (.aload_n 0, 1) := by decide +kernel
theorem dX8_takeScrape_27 : decode cX8_takeScrape 27 = .ok (.aload_n 0, 1) := by decide +kernel
theorem dX8_takeScrape_28 : decode cX8_takeScrape 28 = .ok (.getfield 139, 3) := by decide +kernel
theorem dX8_takeScrape_31 : decode cX8_takeScrape 31 = .ok (.putfield 128, 3) := by decide +kernel
theorem dX8_takeScrape_34 : decode cX8_takeScrape 34 = .ok (.bipush 8, 2) := by decide +kernel
theorem dX8_takeScrape_36 : decode cX8_takeScrape 36 = .ok (.aload_n 0, 1) := by decide +kernel
theorem dX8_takeScrape_37 : decode cX8_takeScrape 37 = .ok (.getfield 106, 3) := by decide +kernel
theorem dX8_takeScrape_40 : decode cX8_takeScrape 40 = .ok (.imul, 1) := by decide +kernel
theorem dX8_takeScrape_41 : decode cX8_takeScrape 41 = .ok (.iload_n 1, 1) := by decide +kernel
theorem dX8_takeScrape_42 : decode cX8_takeScrape 42 = .ok (.iadd, 1) := by decide +kernel
theorem dX8_takeScrape_43 : decode cX8_takeScrape 43 = .ok (.istore_n 2, 1) := by decide +kernel
theorem dX8_takeScrape_44 : decode cX8_takeScrape 44 = .ok (.aload_n 0, 1) := by decide +kernel
theorem dX8_takeScrape_45 : decode cX8_takeScrape 45 = .ok (.iload_n 1, 1) := by decide +kernel
theorem dX8_takeScrape_46 : decode cX8_takeScrape 46 = .ok (.ifCond .ne 7, 3) := by decide +kernel
theorem dX8_takeScrape_49 : decode cX8_takeScrape 49 = .ok (.iconst 1, 1) := by decide +kernel
theorem dX8_takeScrape_50 : decode cX8_takeScrape 50 = .ok (.goto 13, 3) := by decide +kernel
theorem dX8_takeScrape_53 : decode cX8_takeScrape 53 = .ok (.aload_n 0, 1) := by decide +kernel
theorem dX8_takeScrape_54 : decode cX8_takeScrape 54 = .ok (.getfield 34, 3) := by decide +kernel
theorem dX8_takeScrape_57 : decode cX8_takeScrape 57 = .ok (.iload_n 2, 1) := by decide +kernel
theorem dX8_takeScrape_58 : decode cX8_takeScrape 58 = .ok (.iconst 1, 1) := by decide +kernel
theorem dX8_takeScrape_59 : decode cX8_takeScrape 59 = .ok (.isub, 1) := by decide +kernel
theorem dX8_takeScrape_60 : decode cX8_takeScrape 60 = .ok (.iaload, 1) := by decide +kernel
theorem dX8_takeScrape_61 : decode cX8_takeScrape 61 = .ok (.iconst 1, 1) := by decide +kernel
theorem dX8_takeScrape_62 : decode cX8_takeScrape 62 = .ok (.iadd, 1) := by decide +kernel
theorem dX8_takeScrape_63 : decode cX8_takeScrape 63 = .ok (.sipush 999, 3) := by decide +kernel
theorem dX8_takeScrape_66 : decode cX8_takeScrape 66 = .ok (.invokevirtual 191, 3) := by decide +kernel
theorem dX8_takeScrape_69 : decode cX8_takeScrape 69 = .ok (.istore_n 3, 1) := by decide +kernel
theorem dX8_takeScrape_70 : decode cX8_takeScrape 70 = .ok (.aload_n 0, 1) := by decide +kernel
theorem dX8_takeScrape_71 : decode cX8_takeScrape 71 = .ok (.getfield 34, 3) := by decide +kernel
theorem dX8_takeScrape_74 : decode cX8_takeScrape 74 = .ok (.iload_n 2, 1) := by decide +kernel
theorem dX8_takeScrape_75 : decode cX8_takeScrape 75 = .ok (.aload_n 0, 1) := by decide +kernel
theorem dX8_takeScrape_76 : decode cX8_takeScrape 76 = .ok (.getfield 165, 3) := by decide +kernel
theorem dX8_takeScrape_79 : decode cX8_takeScrape 79 = .ok (.iastore, 1) := by decide +kernel
theorem dX8_takeScrape_80 : decode cX8_takeScrape 80 = .ok (.iload_n 3, 1) := by decide +kernel
theorem dX8_takeScrape_81 : decode cX8_takeScrape 81 = .ok (.ifCond .le 7, 3) := by decide +kernel
theorem dX8_takeScrape_84 : decode cX8_takeScrape 84 = .ok (.iload_n 3, 1) := by decide +kernel
theorem dX8_takeScrape_85 : decode cX8_takeScrape 85 = .ok (.goto 11, 3) := by decide +kernel
theorem dX8_takeScrape_88 : decode cX8_takeScrape 88 = .ok (.aload_n 0, 1) := by decide +kernel
theorem dX8_takeScrape_89 : decode cX8_takeScrape 89 = .ok (.iconst 1, 1) := by decide +kernel
theorem dX8_takeScrape_90 : decode cX8_takeScrape 90 = .ok (.sipush 999, 3) := by decide +kernel
theorem dX8_takeScrape_93 : decode cX8_takeScrape 93 = .ok (.invokevirtual 191, 3) := by decide +kernel
theorem dX8_takeScrape_96 : decode cX8_takeScrape 96 = .ok (.istore_n 3, 1) := by decide +kernel
theorem dX8_takeScrape_97 : decode cX8_takeScrape 97 = .ok (.aload_n 0, 1) := by decide +kernel
theorem dX8_takeScrape_98 : decode cX8_takeScrape 98 = .ok (.getfield 37, 3) := by decide +kernel
theorem dX8_takeScrape_101 : decode cX8_takeScrape 101 = .ok (.iload_n 2, 1) := by decide +kernel
theorem dX8_takeScrape_102 : decode cX8_takeScrape 102 = .ok (.aload_n 0, 1) := by decide +kernel
theorem dX8_takeScrape_103 : decode cX8_takeScrape 103 = .ok (.getfield 165, 3) := by decide +kernel
theorem dX8_takeScrape_106 : decode cX8_takeScrape 106 = .ok (.iastore, 1) := by decide +kernel
theorem dX8_takeScrape_107 : decode cX8_takeScrape 107 = .ok (.iload_n 3, 1) := by decide +kernel
theorem dX8_takeScrape_108 : decode cX8_takeScrape 108 = .ok (.ifCond .ne 28, 3) := by decide +kernel
theorem dX8_takeScrape_111 : decode cX8_takeScrape 111 = .ok (.aload_n 0, 1) := by decide +kernel
theorem dX8_takeScrape_112 : decode cX8_takeScrape 112 = .ok (.getfield 218, 3) := by decide +kernel
theorem dX8_takeScrape_115 : decode cX8_takeScrape 115 = .ok (.aload_n 0, 1) := by decide +kernel
theorem dX8_takeScrape_116 : decode cX8_takeScrape 116 = .ok (.getfield 165, 3) := by decide +kernel
theorem dX8_takeScrape_119 : decode cX8_takeScrape 119 = .ok (.iadd, 1) := by decide +kernel
theorem dX8_takeScrape_120 : decode cX8_takeScrape 120 = .ok (.sipush 1000, 3) := by decide +kernel
theorem dX8_takeScrape_123 : decode cX8_takeScrape 123 = .ok (.if_icmp .le 13, 3) := by decide +kernel
theorem dX8_takeScrape_126 : decode cX8_takeScrape 126 = .ok (.aload_n 0, 1) := by decide +kernel
theorem dX8_takeScrape_127 : decode cX8_takeScrape 127 = .ok (.iconst 4, 1) := by decide +kernel
theorem dX8_takeScrape_128 : decode cX8_takeScrape 128 = .ok (.aload_n 0, 1) := by decide +kernel
theorem dX8_takeScrape_129 : decode cX8_takeScrape 129 = .ok (.getfield 162, 3) := by decide +kernel
theorem dX8_takeScrape_132 : decode cX8_takeScrape 132 = .ok (.invokevirtual 158, 3) := by decide +kernel
theorem dX8_takeScrape_135 : decode cX8_takeScrape 135 = .ok (.istore_n 3, 1) := by decide +kernel
theorem dX8_takeScrape_136 : decode cX8_takeScrape 136 = .ok (.aload_n 0, 1) := by decide +kernel
theorem dX8_takeScrape_137 : decode cX8_takeScrape 137 = .ok (.dup, 1) := by decide +kernel
theorem dX8_takeScrape_138 : decode cX8_takeScrape 138 = .ok (.getfield 218, 3) := by decide +kernel
theorem dX8_takeScrape_141 : decode cX8_takeScrape 141 = .ok (.aload_n 0, 1) := by decide +kernel
theorem dX8_takeScrape_142 : decode cX8_takeScrape 142 = .ok (.getfield 165, 3) := by decide +kernel
theorem dX8_takeScrape_145 : decode cX8_takeScrape 145 = .ok (.iadd, 1) := by decide +kernel
theorem dX8_takeScrape_146 : decode cX8_takeScrape 146 = .ok (.putfield 218, 3) := by decide +kernel
theorem dX8_takeScrape_149 : decode cX8_takeScrape 149 = .ok (.aload_n 0, 1) := by decide +kernel
theorem dX8_takeScrape_150 : decode cX8_takeScrape 150 = .ok (.getfield 31, 3) := by decide +kernel
theorem dX8_takeScrape_153 : decode cX8_takeScrape 153 = .ok (.aload_n 0, 1) := by decide +kernel
theorem dX8_takeScrape_154 : decode cX8_takeScrape 154 = .ok (.getfield 106, 3) := by decide +kernel
theorem dX8_takeScrape_157 : decode cX8_takeScrape 157 = .ok (.dup2, 1) := by decide +kernel
theorem dX8_takeScrape_158 : decode cX8_takeScrape 158 = .ok (.iaload, 1) := by decide +kernel
theorem dX8_takeScrape_159 : decode cX8_takeScrape 159 = .ok (.iconst 1, 1) := by decide +kernel
theorem dX8_takeScrape_160 : decode cX8_takeScrape 160 = .ok (.iadd, 1) := by decide +kernel
theorem dX8_takeScrape_161 : decode cX8_takeScrape 161 = .ok (.iastore, 1) := by decide +kernel
theorem dX8_takeScrape_162 : decode cX8_takeScrape 162 = .ok (.iload_n 3, 1) := by decide +kernel
theorem dX8_takeScrape_163 : decode cX8_takeScrape 163 = .ok (.ireturn, 1) := by decide +kernel
theorem dX8_takePains_0 : decode cX8_takePains 0 = .ok (.aload_n 0, 1) := by decide +kernel
theorem dX8_takePains_1 : decode cX8_takePains 1 = .ok (.getfield 40, 3) := by decide +kernel
theorem dX8_takePains_4 : decode cX8_takePains 4 = .ok (.aload_n 0, 1) := by decide +kernel
theorem dX8_takePains_5 : decode cX8_takePains 5 = .ok (.getfield 106, 3) := by decide +kernel
theorem dX8_takePains_8 : decode cX8_takePains 8 = .ok (.iaload, 1) := by decide +kernel
theorem dX8_takePains_9 : decode cX8_takePains 9 = .ok (.ifCond .lt 13, 3) := by decide +kernel
theorem dX8_takePains_12 : decode cX8_takePains 12 = .ok (.aload_n 0, 1) := by decide +kernel
theorem dX8_takePains_13 : decode cX8_takePains 13 = .ok (.iconst 3, 1) := by decide +kernel
theorem dX8_takePains_14 : decode cX8_takePains 14 = .ok (.aload_n 0, 1) := by decide +kernel
theorem dX8_takePains_15 : decode cX8_takePains 15 = .ok (.getfield 128, 3) := by decide +kernel
theorem dX8_takePains_18 : decode cX8_takePains 18 = .ok (.invokevirtual 158, 3) := by decide +kernel
theorem dX8_takePains_21 : decode cX8_takePains 21 = .ok (.ireturn, 1) := by decide +kernel
theorem dX8_takePains_22 : decode cX8_takePains 22 = .ok (.aload_n 0, 1) := by decide +kernel
theorem dX8_takePains_23 : decode cX8_takePains 23 = .ok (.aload_n 0, 1) := by decide +kernel
theorem dX8_takePains_24 : decode cX8_takePains 24 = .ok (.getfield 139, 3) := by decide +kernel
theorem dX8_takePains_27 : decode cX8_takePains 27 = .ok (.putfield 128, 3) := by decide +kernel
theorem dX8_takePains_30 : decode cX8_takePains 30 = .ok (.aload_n 0, 1) := by decide +kernel
theorem dX8_takePains_31 : decode cX8_takePains 31 = .ok (.iconst 0, 1) := by decide +kernel
theorem dX8_takePains_32 : decode cX8_takePains 32 = .ok (.sipush 999, 3) := by decide +kernel
theorem dX8_takePains_35 : decode cX8_takePains 35 = .ok (.invokevirtual 191, 3) := by decide +kernel
theorem dX8_takePains_38 : decode cX8_takePains 38 = .ok (.istore_n 1, 1) := by decide +kernel
theorem dX8_takePains_39 : decode cX8_takePains 39 = .ok (.aload_n 0, 1) := by decide +kernel
theorem dX8_takePains_40 : decode cX8_takePains 40 = .ok (.getfield 40, 3) := by decide +kernel
theorem dX8_takePains_43 : decode cX8_takePains 43 = .ok (.aload_n 0, 1) := by decide +kernel
theorem dX8_takePains_44 : decode cX8_takePains 44 = .ok (.getfield 106, 3) := by decide +kernel
theorem dX8_takePains_47 : decode cX8_takePains 47 = .ok (.aload_n 0, 1) := by decide +kernel
theorem dX8_takePains_48 : decode cX8_takePains 48 = .ok (.getfield 165, 3) := by decide +kernel
theorem dX8_takePains_51 : decode cX8_takePains 51 = .ok (.iastore, 1) := by decide +kernel
theorem dX8_takePains_52 : decode cX8_takePains 52 = .ok (.iload_n 1, 1) := by decide +kernel
theorem dX8_takePains_53 : decode cX8_takePains 53 = .ok (.ifCond .le 7, 3) := by decide +kernel
theorem dX8_takePains_56 : decode cX8_takePains 56 = .ok (.iload_n 1, 1) := by decide +kernel
theorem dX8_takePains_57 : decode cX8_takePains 57 = .ok (.goto 10, 3) := by decide +kernel
theorem dX8_takePains_60 : decode cX8_takePains 60 = .ok (.aload_n 0, 1) := by decide +kernel
theorem dX8_takePains_61 : decode cX8_takePains 61 = .ok (.iconst 0, 1) := by decide +kernel
theorem dX8_takePains_62 : decode cX8_takePains 62 = .ok (.bipush 100, 2) := by decide +kernel
theorem dX8_takePains_64 : decode cX8_takePains 64 = .ok (.invokevirtual 191, 3) := by decide +kernel
theorem dX8_takePains_67 : decode cX8_takePains 67 = .ok (.istore_n 1, 1) := by decide +kernel
theorem dX8_takePains_68 : decode cX8_takePains 68 = .ok (.aload_n 0, 1) := by decide +kernel
theorem dX8_takePains_69 : decode cX8_takePains 69 = .ok (.getfield 43, 3) := by decide +kernel
theorem dX8_takePains_72 : decode cX8_takePains 72 = .ok (.aload_n 0, 1) := by decide +kernel
theorem dX8_takePains_73 : decode cX8_takePains 73 = .ok (.getfield 106, 3) := by decide +kernel
theorem dX8_takePains_76 : decode cX8_takePains 76 = .ok (.aload_n 0, 1) := by decide +kernel
theorem dX8_takePains_77 : decode cX8_takePains 77 = .ok (.getfield 165, 3) := by decide +kernel
theorem dX8_takePains_80 : decode cX8_takePains 80 = .ok (.iastore, 1) := by decide +kernel
theorem dX8_takePains_81 : decode cX8_takePains 81 = .ok (.iload_n 1, 1) := by decide +kernel
theorem dX8_takePains_82 : decode cX8_takePains 82 = .ok (.ireturn, 1) := by decide +kernel
theorem dX8_takeSort_0 : decode cX8_takeSort 0 = .ok (.aload_n 0, 1) := by decide +kernel
theorem dX8_takeSort_1 : decode cX8_takeSort 1 = .ok (.invokevirtual 178, 3) := by decide +kernel
theorem dX8_takeSort_4 : decode cX8_takeSort 4 = .ok (.aload_n 0, 1) := by decide +kernel
theorem dX8_takeSort_5 : decode cX8_takeSort 5 = .ok (.getfield 135, 3) := by decide +kernel
theorem dX8_takeSort_8 : decode cX8_takeSort 8 = .ok (.bipush 115, 2) := by decide +kernel
theorem dX8_takeSort_10 : decode cX8_takeSort 10 = .ok (.bipush 99, 2) := by decide +kernel
theorem dX8_takeSort_12 : decode cX8_takeSort 12 = .ok (.bipush 114, 2) := by decide +kernel
theorem dX8_takeSort_14 : decode cX8_takeSort 14 = .ok (.bipush 97, 2) := by decide +kernel
theorem dX8_takeSort_16 : decode cX8_takeSort 16 = .ok (.invokestatic 170, 3) := by decide +kernel
theorem dX8_takeSort_19 : decode cX8_takeSort 19 = .ok (.bipush 112, 2) := by decide +kernel
theorem dX8_takeSort_21 : decode cX8_takeSort 21 = .ok (.invokestatic 174, 3) := by decide +kernel
theorem dX8_takeSort_24 : decode cX8_takeSort 24 = .ok (.bipush 101, 2) := by decide +kernel
theorem dX8_takeSort_26 : decode cX8_takeSort 26 = .ok (.invokestatic 174, 3) := by decide +kernel
theorem dX8_takeSort_29 : decode cX8_takeSort 29 = .ok (.lcmp, 1) := by decide +kernel
theorem dX8_takeSort_30 : decode cX8_takeSort 30 = .ok (.ifCond .ne 7, 3) := by decide +kernel
theorem dX8_takeSort_33 : decode cX8_takeSort 33 = .ok (.iconst 1, 1) := by decide +kernel
theorem dX8_takeSort_34 : decode cX8_takeSort 34 = .ok (.goto 4, 3) := by decide +kernel
theorem dX8_takeSort_37 : decode cX8_takeSort 37 = .ok (.iconst 0, 1) := by decide +kernel
theorem dX8_takeSort_38 : decode cX8_takeSort 38 = .ok (.istore_n 1, 1) := by decide +kernel
theorem dX8_takeSort_39 : decode cX8_takeSort 39 = .ok (.iload_n 1, 1) := by decide +kernel
theorem dX8_takeSort_40 : decode cX8_takeSort 40 = .ok (.ifCond .ne 37, 3) := by decide +kernel
theorem dX8_takeSort_43 : decode cX8_takeSort 43 = .ok (.aload_n 0, 1) := by decide +kernel
theorem dX8_takeSort_44 : decode cX8_takeSort 44 = .ok (.getfield 135, 3) := by decide +kernel
theorem dX8_takeSort_47 : decode cX8_takeSort 47 = .ok (.bipush 112, 2) := by decide +kernel
theorem dX8_takeSort_49 : decode cX8_takeSort 49 = .ok (.bipush 97, 2) := by decide +kernel
theorem dX8_takeSort_51 : decode cX8_takeSort 51 = .ok (.bipush 105, 2) := by decide +kernel
theorem dX8_takeSort_53 : decode cX8_takeSort 53 = .ok (.bipush 110, 2) := by decide +kernel
theorem dX8_takeSort_55 : decode cX8_takeSort 55 = .ok (.invokestatic 170, 3) := by decide +kernel
theorem dX8_takeSort_58 : decode cX8_takeSort 58 = .ok (.bipush 115, 2) := by decide +kernel
theorem dX8_takeSort_60 : decode cX8_takeSort 60 = .ok (.invokestatic 174, 3) := by decide +kernel
theorem dX8_takeSort_63 : decode cX8_takeSort 63 = .ok (.lcmp, 1) := by decide +kernel
theorem dX8_takeSort_64 : decode cX8_takeSort 64 = .ok (.ifCond .eq 13, 3) := by decide +kernel
theorem dX8_takeSort_67 : decode cX8_takeSort 67 = .ok (.aload_n 0, 1) := by decide +kernel
theorem dX8_takeSort_68 : decode cX8_takeSort 68 = .ok (.iconst 1, 1) := by decide +kernel
theorem dX8_takeSort_69 : decode cX8_takeSort 69 = .ok (.aload_n 0, 1) := by decide +kernel
theorem dX8_takeSort_70 : decode cX8_takeSort 70 = .ok (.getfield 128, 3) := by decide +kernel
theorem dX8_takeSort_73 : decode cX8_takeSort 73 = .ok (.invokevirtual 158, 3) := by decide +kernel
theorem dX8_takeSort_76 : decode cX8_takeSort 76 = .ok (.ireturn, 1) := by decide +kernel
theorem dX8_takeSort_77 : decode cX8_takeSort 77 = .ok (.iload_n 1, 1) := by decide +kernel
theorem dX8_takeSort_78 : decode cX8_takeSort 78 = .ok (.ifCond .eq 10, 3) := by decide +kernel
theorem dX8_takeSort_81 : decode cX8_takeSort 81 = .ok (.aload_n 0, 1) := by decide +kernel
theorem dX8_takeSort_82 : decode cX8_takeSort 82 = .ok (.invokevirtual 221, 3) := by decide +kernel
theorem dX8_takeSort_85 : decode cX8_takeSort 85 = .ok (.goto 7, 3) := by decide +kernel
theorem dX8_takeSort_88 : decode cX8_takeSort 88 = .ok (.aload_n 0, 1) := by decide +kernel
theorem dX8_takeSort_89 : decode cX8_takeSort 89 = .ok (.invokevirtual 224, 3) := by decide +kernel
theorem dX8_takeSort_92 : decode cX8_takeSort 92 = .ok (.istore_n 2, 1) := by decide +kernel
theorem dX8_takeSort_93 : decode cX8_takeSort 93 = .ok (.iload_n 2, 1) := by decide +kernel
theorem dX8_takeSort_94 : decode cX8_takeSort 94 = .ok (.ifCond .le 7, 3) := by decide +kernel
theorem dX8_takeSort_97 : decode cX8_takeSort 97 = .ok (.iload_n 2, 1) := by decide +kernel
theorem dX8_takeSort_98 : decode cX8_takeSort 98 = .ok (.goto 7, 3) := by decide +kernel
theorem dX8_takeSort_101 : decode cX8_takeSort 101 = .ok (.aload_n 0, 1) := by decide +kernel
theorem dX8_takeSort_102 : decode cX8_takeSort 102 = .ok (.invokevirtual 194, 3) := by decide +kernel
theorem dX8_takeSort_105 : decode cX8_takeSort 105 = .ok (.ireturn, 1) := by decide +kernel
theorem dX8_sort_0 : decode cX8_sort 0 = .ok (.aload_n 0, 1) := by decide +kernel
theorem dX8_sort_1 : decode cX8_sort 1 = .ok (.getfield 122, 3) := by decide +kernel
theorem dX8_sort_4 : decode cX8_sort 4 = .ok (.sipush 200, 3) := by decide +kernel
theorem dX8_sort_7 : decode cX8_sort 7 = .ok (.if_icmp .le 6, 3) := by decide +kernel
theorem dX8_sort_10 : decode cX8_sort 10 = .ok (.ldc 227, 2) := by decide +kernel
theorem dX8_sort_12 : decode cX8_sort 12 = .ok (.ireturn, 1) := by decide +kernel
theorem dX8_sort_13 : decode cX8_sort 13 = .ok (.aload_n 0, 1) := by decide +kernel
theorem dX8_sort_14 : decode cX8_sort 14 = .ok (.getfield 106, 3) := by decide +kernel
theorem dX8_sort_17 : decode cX8_sort 17 = .ok (.iconst 4, 1) := by decide +kernel
theorem dX8_sort_18 : decode cX8_sort 18 = .ok (.if_icmp .ne 6, 3) := by decide +kernel
theorem dX8_sort_21 : decode cX8_sort 21 = .ok (.ldc 125, 2) := by decide +kernel
theorem dX8_sort_23 : decode cX8_sort 23 = .ok (.ireturn, 1) := by decide +kernel
theorem dX8_sort_24 : decode cX8_sort 24 = .ok (.aload_n 0, 1) := by decide +kernel
theorem dX8_sort_25 : decode cX8_sort 25 = .ok (.iconst (-1), 1) := by decide +kernel
theorem dX8_sort_26 : decode cX8_sort 26 = .ok (.putfield 49, 3) := by decide +kernel
theorem dX8_sort_29 : decode cX8_sort 29 = .ok (.aload_n 0, 1) := by decide +kernel
theorem dX8_sort_30 : decode cX8_sort 30 = .ok (.iconst 0, 1) := by decide +kernel
theorem dX8_sort_31 : decode cX8_sort 31 = .ok (.putfield 128, 3) := by decide +kernel
theorem dX8_sort_34 : decode cX8_sort 34 = .ok (.aload_n 0, 1) := by decide +kernel
theorem dX8_sort_35 : decode cX8_sort 35 = .ok (.getfield 31, 3) := by decide +kernel
theorem dX8_sort_38 : decode cX8_sort 38 = .ok (.aload_n 0, 1) := by decide +kernel
theorem dX8_sort_39 : decode cX8_sort 39 = .ok (.getfield 106, 3) := by decide +kernel
theorem dX8_sort_42 : decode cX8_sort 42 = .ok (.iconst 0, 1) := by decide +kernel
theorem dX8_sort_43 : decode cX8_sort 43 = .ok (.iastore, 1) := by decide +kernel
theorem dX8_sort_44 : decode cX8_sort 44 = .ok (.aload_n 0, 1) := by decide +kernel
theorem dX8_sort_45 : decode cX8_sort 45 = .ok (.getfield 40, 3) := by decide +kernel
theorem dX8_sort_48 : decode cX8_sort 48 = .ok (.aload_n 0, 1) := by decide +kernel
theorem dX8_sort_49 : decode cX8_sort 49 = .ok (.getfield 106, 3) := by decide +kernel
theorem dX8_sort_52 : decode cX8_sort 52 = .ok (.iconst (-1), 1) := by decide +kernel
theorem dX8_sort_53 : decode cX8_sort 53 = .ok (.iastore, 1) := by decide +kernel
theorem dX8_sort_54 : decode cX8_sort 54 = .ok (.aload_n 0, 1) := by decide +kernel
theorem dX8_sort_55 : decode cX8_sort 55 = .ok (.getfield 43, 3) := by decide +kernel
theorem dX8_sort_58 : decode cX8_sort 58 = .ok (.aload_n 0, 1) := by decide +kernel
theorem dX8_sort_59 : decode cX8_sort 59 = .ok (.getfield 106, 3) := by decide +kernel
theorem dX8_sort_62 : decode cX8_sort 62 = .ok (.iconst (-1), 1) := by decide +kernel
theorem dX8_sort_63 : decode cX8_sort 63 = .ok (.iastore, 1) := by decide +kernel
theorem dX8_sort_64 : decode cX8_sort 64 = .ok (.aload_n 0, 1) := by decide +kernel
theorem dX8_sort_65 : decode cX8_sort 65 = .ok (.iconst 0, 1) := by decide +kernel
theorem dX8_sort_66 : decode cX8_sort 66 = .ok (.putfield 218, 3) := by decide +kernel
theorem dX8_sort_69 : decode cX8_sort 69 = .ok (.iconst 0, 1) := by decide +kernel
theorem dX8_sort_70 : decode cX8_sort 70 = .ok (.istore_n 1, 1) := by decide +kernel
theorem dX8_sort_71 : decode cX8_sort 71 = .ok (.iload_n 1, 1) := by decide +kernel
theorem dX8_sort_72 : decode cX8_sort 72 = .ok (.ifCond .ne 18, 3) := by decide +kernel
theorem dX8_sort_75 : decode cX8_sort 75 = .ok (.aload_n 0, 1) := by decide +kernel
theorem dX8_sort_76 : decode cX8_sort 76 = .ok (.invokevirtual 131, 3) := by decide +kernel
theorem dX8_sort_79 : decode cX8_sort 79 = .ok (.ifCond .lt 11, 3) := by decide +kernel
theorem dX8_sort_82 : decode cX8_sort 82 = .ok (.aload_n 0, 1) := by decide +kernel
theorem dX8_sort_83 : decode cX8_sort 83 = .ok (.invokevirtual 228, 3) := by decide +kernel
theorem dX8_sort_86 : decode cX8_sort 86 = .ok (.istore_n 1, 1) := by decide +kernel
theorem dX8_sort_87 : decode cX8_sort 87 = .ok (.goto (-16), 3) := by decide +kernel
theorem dX8_sort_90 : decode cX8_sort 90 = .ok (.iload_n 1, 1) := by decide +kernel
theorem dX8_sort_91 : decode cX8_sort 91 = .ok (.ifCond .ne 27, 3) := by decide +kernel
theorem dX8_sort_94 : decode cX8_sort 94 = .ok (.aload_n 0, 1) := by decide +kernel
theorem dX8_sort_95 : decode cX8_sort 95 = .ok (.getfield 31, 3) := by decide +kernel
theorem dX8_sort_98 : decode cX8_sort 98 = .ok (.aload_n 0, 1) := by decide +kernel
theorem dX8_sort_99 : decode cX8_sort 99 = .ok (.getfield 106, 3) := by decide +kernel
theorem dX8_sort_102 : decode cX8_sort 102 = .ok (.iaload, 1) := by decide +kernel
theorem dX8_sort_103 : decode cX8_sort 103 = .ok (.ifCond .ne 15, 3) := by decide +kernel
theorem dX8_sort_106 : decode cX8_sort 106 = .ok (.aload_n 0, 1) := by decide +kernel
theorem dX8_sort_107 : decode cX8_sort 107 = .ok (.iconst 5, 1) := by decide +kernel
theorem dX8_sort_108 : decode cX8_sort 108 = .ok (.aload_n 0, 1) := by decide +kernel
theorem dX8_sort_109 : decode cX8_sort 109 = .ok (.getfield 122, 3) := by decide +kernel
theorem dX8_sort_112 : decode cX8_sort 112 = .ok (.invokevirtual 158, 3) := by decide +kernel
theorem dX8_sort_115 : decode cX8_sort 115 = .ok (.goto 4, 3) := by decide +kernel
theorem dX8_sort_118 : decode cX8_sort 118 = .ok (.iload_n 1, 1) := by decide +kernel
theorem dX8_sort_119 : decode cX8_sort 119 = .ok (.istore_n 1, 1) := by decide +kernel
theorem dX8_sort_120 : decode cX8_sort 120 = .ok (.aload_n 0, 1) := by decide +kernel
theorem dX8_sort_121 : decode cX8_sort 121 = .ok (.iconst 0, 1) := by decide +kernel
theorem dX8_sort_122 : decode cX8_sort 122 = .ok (.putfield 122, 3) := by decide +kernel
theorem dX8_sort_125 : decode cX8_sort 125 = .ok (.iload_n 1, 1) := by decide +kernel
theorem dX8_sort_126 : decode cX8_sort 126 = .ok (.ifCond .le 8, 3) := by decide +kernel
theorem dX8_sort_129 : decode cX8_sort 129 = .ok (.bipush (-10), 2) := by decide +kernel
theorem dX8_sort_131 : decode cX8_sort 131 = .ok (.iload_n 1, 1) := by decide +kernel
theorem dX8_sort_132 : decode cX8_sort 132 = .ok (.isub, 1) := by decide +kernel
theorem dX8_sort_133 : decode cX8_sort 133 = .ok (.ireturn, 1) := by decide +kernel
theorem dX8_sort_134 : decode cX8_sort 134 = .ok (.aload_n 0, 1) := by decide +kernel
theorem dX8_sort_135 : decode cX8_sort 135 = .ok (.dup, 1) := by decide +kernel
theorem dX8_sort_136 : decode cX8_sort 136 = .ok (.getfield 106, 3) := by decide +kernel
theorem dX8_sort_139 : decode cX8_sort 139 = .ok (.iconst 1, 1) := by decide +kernel
theorem dX8_sort_140 : decode cX8_sort 140 = .ok (.iadd, 1) := by decide +kernel
theorem dX8_sort_141 : decode cX8_sort 141 = .ok (.putfield 106, 3) := by decide +kernel
theorem dX8_sort_144 : decode cX8_sort 144 = .ok (.aload_n 0, 1) := by decide +kernel
theorem dX8_sort_145 : decode cX8_sort 145 = .ok (.getfield 106, 3) := by decide +kernel
theorem dX8_sort_148 : decode cX8_sort 148 = .ok (.iconst 1, 1) := by decide +kernel
theorem dX8_sort_149 : decode cX8_sort 149 = .ok (.isub, 1) := by decide +kernel
theorem dX8_sort_150 : decode cX8_sort 150 = .ok (.ireturn, 1) := by decide +kernel
theorem dX8_sumOdds_0 : decode cX8_sumOdds 0 = .ok (.iconst 0, 1) := by decide +kernel
theorem dX8_sumOdds_1 : decode cX8_sumOdds 1 = .ok (.istore_n 3, 1) := by decide +kernel
theorem dX8_sumOdds_2 : decode cX8_sumOdds 2 = .ok (.iconst 0, 1) := by decide +kernel
theorem dX8_sumOdds_3 : decode cX8_sumOdds 3 = .ok (.istore 4, 2) := by decide +kernel
theorem dX8_sumOdds_5 : decode cX8_sumOdds 5 = .ok (.iload 4, 2) := by decide +kernel
theorem dX8_sumOdds_7 : decode cX8_sumOdds 7 = .ok (.aload_n 0, 1) := by decide +kernel
theorem dX8_sumOdds_8 : decode cX8_sumOdds 8 = .ok (.getfield 31, 3) := by decide +kernel
theorem dX8_sumOdds_11 : decode cX8_sumOdds 11 = .ok (.iload_n 1, 1) := by decide +kernel
theorem dX8_sumOdds_12 : decode cX8_sumOdds 12 = .ok (.iaload, 1) := by decide +kernel
theorem dX8_sumOdds_13 : decode cX8_sumOdds 13 = .ok (.if_icmp .ge 20, 3) := by decide +kernel
theorem dX8_sumOdds_16 : decode cX8_sumOdds 16 = .ok (.iload_n 3, 1) := by decide +kernel
theorem dX8_sumOdds_17 : decode cX8_sumOdds 17 = .ok (.aload_n 0, 1) := by decide +kernel
theorem dX8_sumOdds_18 : decode cX8_sumOdds 18 = .ok (.iload_n 1, 1) := by decide +kernel
theorem dX8_sumOdds_19 : decode cX8_sumOdds 19 = .ok (.iload 4, 2) := by decide +kernel
theorem dX8_sumOdds_21 : decode cX8_sumOdds 21 = .ok (.iload_n 2, 1) := by decide +kernel
theorem dX8_sumOdds_22 : decode cX8_sumOdds 22 = .ok (.invokevirtual 231, 3) := by decide +kernel
theorem dX8_sumOdds_25 : decode cX8_sumOdds 25 = .ok (.iadd, 1) := by decide +kernel
theorem dX8_sumOdds_26 : decode cX8_sumOdds 26 = .ok (.istore_n 3, 1) := by decide +kernel
theorem dX8_sumOdds_27 : decode cX8_sumOdds 27 = .ok (.iinc 4 1, 3) := by decide +kernel
theorem dX8_sumOdds_30 : decode cX8_sumOdds 30 = .ok (.goto (-25), 3) := by decide +kernel
theorem dX8_sumOdds_33 : decode cX8_sumOdds 33 = .ok (.iload_n 3, 1) := by decide +kernel
theorem dX8_sumOdds_34 : decode cX8_sumOdds 34 = .ok (.ireturn, 1) := by decide +kernel
theorem dX8_oddsOf_0 : decode cX8_oddsOf 0 = .ok (.iload_n 3, 1) := by decide +kernel
theorem dX8_oddsOf_1 : decode cX8_oddsOf 1 = .ok (.ifCond .eq 30, 3) := by decide +kernel
theorem dX8_oddsOf_4 : decode cX8_oddsOf 4 = .ok (.aload_n 0, 1) := by decide +kernel
theorem dX8_oddsOf_5 : decode cX8_oddsOf 5 = .ok (.getfield 37, 3) := by decide +kernel
theorem dX8_oddsOf_8 : decode cX8_oddsOf 8 = .ok (.bipush 8, 2) := by decide +kernel
theorem dX8_oddsOf_10 : decode cX8_oddsOf 10 = .ok (.iload_n 1, 1) := by decide +kernel
theorem dX8_oddsOf_11 : decode cX8_oddsOf 11 = .ok (.imul, 1) := by decide +kernel
theorem dX8_oddsOf_12 : decode cX8_oddsOf 12 = .ok (.iload_n 2, 1) := by decide +kernel
theorem dX8_oddsOf_13 : decode cX8_oddsOf 13 = .ok (.iadd, 1) := by decide +kernel
theorem dX8_oddsOf_14 : decode cX8_oddsOf 14 = .ok (.iaload, 1) := by decide +kernel
theorem dX8_oddsOf_15 : decode cX8_oddsOf 15 = .ok (.bipush 100, 2) := by decide +kernel
theorem dX8_oddsOf_17 : decode cX8_oddsOf 17 = .ok (.aload_n 0, 1) := by decide +kernel
theorem dX8_oddsOf_18 : decode cX8_oddsOf 18 = .ok (.getfield 43, 3) := by decide +kernel
theorem dX8_oddsOf_21 : decode cX8_oddsOf 21 = .ok (.iload_n 1, 1) := by decide +kernel
theorem dX8_oddsOf_22 : decode cX8_oddsOf 22 = .ok (.iaload, 1) := by decide +kernel
theorem dX8_oddsOf_23 : decode cX8_oddsOf 23 = .ok (.isub, 1) := by decide +kernel
theorem dX8_oddsOf_24 : decode cX8_oddsOf 24 = .ok (.imul, 1) := by decide +kernel
theorem dX8_oddsOf_25 : decode cX8_oddsOf 25 = .ok (.bipush 100, 2) := by decide +kernel
theorem dX8_oddsOf_27 : decode cX8_oddsOf 27 = .ok (.idiv, 1) := by decide +kernel
theorem dX8_oddsOf_28 : decode cX8_oddsOf 28 = .ok (.goto 14, 3) := by decide +kernel
theorem dX8_oddsOf_31 : decode cX8_oddsOf 31 = .ok (.aload_n 0, 1) := by decide +kernel
theorem dX8_oddsOf_32 : decode cX8_oddsOf 32 = .ok (.getfield 37, 3) := by decide +kernel
theorem dX8_oddsOf_35 : decode cX8_oddsOf 35 = .ok (.bipush 8, 2) := by decide +kernel
theorem dX8_oddsOf_37 : decode cX8_oddsOf 37 = .ok (.iload_n 1, 1) := by decide +kernel
theorem dX8_oddsOf_38 : decode cX8_oddsOf 38 = .ok (.imul, 1) := by decide +kernel
theorem dX8_oddsOf_39 : decode cX8_oddsOf 39 = .ok (.iload_n 2, 1) := by decide +kernel
theorem dX8_oddsOf_40 : decode cX8_oddsOf 40 = .ok (.iadd, 1) := by decide +kernel
theorem dX8_oddsOf_41 : decode cX8_oddsOf 41 = .ok (.iaload, 1) := by decide +kernel
theorem dX8_oddsOf_42 : decode cX8_oddsOf 42 = .ok (.ireturn, 1) := by decide +kernel
theorem dX8_scrapes_0 : decode cX8_scrapes 0 = .ok (.aload_n 0, 1) := by decide +kernel
theorem dX8_scrapes_1 : decode cX8_scrapes 1 = .ok (.iload_n 1, 1) := by decide +kernel
theorem dX8_scrapes_2 : decode cX8_scrapes 2 = .ok (.invokevirtual 235, 3) := by decide +kernel
theorem dX8_scrapes_5 : decode cX8_scrapes 5 = .ok (.ifCond .ne 6, 3) := by decide +kernel
theorem dX8_scrapes_8 : decode cX8_scrapes 8 = .ok (.ldc 197, 2) := by decide +kernel
theorem dX8_scrapes_10 : decode cX8_scrapes 10 = .ok (.ireturn, 1) := by decide +kernel
theorem dX8_scrapes_11 : decode cX8_scrapes 11 = .ok (.iload_n 2, 1) := by decide +kernel
theorem dX8_scrapes_12 : decode cX8_scrapes 12 = .ok (.i2l, 1) := by decide +kernel
theorem dX8_scrapes_13 : decode cX8_scrapes 13 = .ok (.lconst 0, 1) := by decide +kernel
theorem dX8_scrapes_14 : decode cX8_scrapes 14 = .ok (.ldc2_w 238, 3) := by decide +kernel
theorem dX8_scrapes_17 : decode cX8_scrapes 17 = .ok (.invokestatic 109, 3) := by decide +kernel
theorem dX8_scrapes_20 : decode cX8_scrapes 20 = .ok (.ifCond .ne 6, 3) := by decide +kernel
theorem dX8_scrapes_23 : decode cX8_scrapes 23 = .ok (.ldc 121, 2) := by decide +kernel
theorem dX8_scrapes_25 : decode cX8_scrapes 25 = .ok (.ireturn, 1) := by decide +kernel
theorem dX8_scrapes_26 : decode cX8_scrapes 26 = .ok (.iload_n 2, 1) := by decide +kernel
theorem dX8_scrapes_27 : decode cX8_scrapes 27 = .ok (.iconst 4, 1) := by decide +kernel
theorem dX8_scrapes_28 : decode cX8_scrapes 28 = .ok (.if_icmp .ge 51, 3) := by decide +kernel
theorem dX8_scrapes_31 : decode cX8_scrapes 31 = .ok (.iload_n 2, 1) := by decide +kernel
theorem dX8_scrapes_32 : decode cX8_scrapes 32 = .ok (.ifCond .ne 12, 3) := by decide +kernel
theorem dX8_scrapes_35 : decode cX8_scrapes 35 = .ok (.aload_n 0, 1) := by decide +kernel
theorem dX8_scrapes_36 : decode cX8_scrapes 36 = .ok (.getfield 31, 3) := by decide +kernel
theorem dX8_scrapes_39 : decode cX8_scrapes 39 = .ok (.iload_n 1, 1) := by decide +kernel
theorem dX8_scrapes_40 : decode cX8_scrapes 40 = .ok (.iaload, 1) := by decide +kernel
theorem dX8_scrapes_41 : decode cX8_scrapes 41 = .ok (.goto 37, 3) := by decide +kernel
theorem dX8_scrapes_44 : decode cX8_scrapes 44 = .ok (.iload_n 2, 1) := by decide +kernel
theorem dX8_scrapes_45 : decode cX8_scrapes 45 = .ok (.iconst 1, 1) := by decide +kernel
theorem dX8_scrapes_46 : decode cX8_scrapes 46 = .ok (.if_icmp .ne 12, 3) := by decide +kernel
theorem dX8_scrapes_49 : decode cX8_scrapes 49 = .ok (.aload_n 0, 1) := by decide +kernel
theorem dX8_scrapes_50 : decode cX8_scrapes 50 = .ok (.iload_n 1, 1) := by decide +kernel
theorem dX8_scrapes_51 : decode cX8_scrapes 51 = .ok (.iconst 0, 1) := by decide +kernel
theorem dX8_scrapes_52 : decode cX8_scrapes 52 = .ok (.invokevirtual 240, 3) := by decide +kernel
theorem dX8_scrapes_55 : decode cX8_scrapes 55 = .ok (.goto 23, 3) := by decide +kernel
theorem dX8_scrapes_58 : decode cX8_scrapes 58 = .ok (.iload_n 2, 1) := by decide +kernel
theorem dX8_scrapes_59 : decode cX8_scrapes 59 = .ok (.iconst 2, 1) := by decide +kernel
theorem dX8_scrapes_60 : decode cX8_scrapes 60 = .ok (.if_icmp .ne 12, 3) := by decide +kernel
theorem dX8_scrapes_63 : decode cX8_scrapes 63 = .ok (.aload_n 0, 1) := by decide +kernel
theorem dX8_scrapes_64 : decode cX8_scrapes 64 = .ok (.getfield 40, 3) := by decide +kernel
theorem dX8_scrapes_67 : decode cX8_scrapes 67 = .ok (.iload_n 1, 1) := by decide +kernel
theorem dX8_scrapes_68 : decode cX8_scrapes 68 = .ok (.iaload, 1) := by decide +kernel
theorem dX8_scrapes_69 : decode cX8_scrapes 69 = .ok (.goto 9, 3) := by decide +kernel
theorem dX8_scrapes_72 : decode cX8_scrapes 72 = .ok (.aload_n 0, 1) := by decide +kernel
theorem dX8_scrapes_73 : decode cX8_scrapes 73 = .ok (.getfield 43, 3) := by decide +kernel
theorem dX8_scrapes_76 : decode cX8_scrapes 76 = .ok (.iload_n 1, 1) := by decide +kernel
theorem dX8_scrapes_77 : decode cX8_scrapes 77 = .ok (.iaload, 1) := by decide +kernel
theorem dX8_scrapes_78 : decode cX8_scrapes 78 = .ok (.ireturn, 1) := by decide +kernel
theorem dX8_scrapes_79 : decode cX8_scrapes 79 = .ok (.iload_n 2, 1) := by decide +kernel
theorem dX8_scrapes_80 : decode cX8_scrapes 80 = .ok (.iconst 4, 1) := by decide +kernel
theorem dX8_scrapes_81 : decode cX8_scrapes 81 = .ok (.isub, 1) := by decide +kernel
theorem dX8_scrapes_82 : decode cX8_scrapes 82 = .ok (.bipush 8, 2) := by decide +kernel
theorem dX8_scrapes_84 : decode cX8_scrapes 84 = .ok (.irem, 1) := by decide +kernel
theorem dX8_scrapes_85 : decode cX8_scrapes 85 = .ok (.istore_n 3, 1) := by decide +kernel
theorem dX8_scrapes_86 : decode cX8_scrapes 86 = .ok (.iload_n 3, 1) := by decide +kernel
theorem dX8_scrapes_87 : decode cX8_scrapes 87 = .ok (.aload_n 0, 1) := by decide +kernel
theorem dX8_scrapes_88 : decode cX8_scrapes 88 = .ok (.getfield 31, 3) := by decide +kernel
theorem dX8_scrapes_91 : decode cX8_scrapes 91 = .ok (.iload_n 1, 1) := by decide +kernel
theorem dX8_scrapes_92 : decode cX8_scrapes 92 = .ok (.iaload, 1) := by decide +kernel
theorem dX8_scrapes_93 : decode cX8_scrapes 93 = .ok (.if_icmp .lt 7, 3) := by decide +kernel
theorem dX8_scrapes_96 : decode cX8_scrapes 96 = .ok (.iconst (-1), 1) := by decide +kernel
theorem dX8_scrapes_97 : decode cX8_scrapes 97 = .ok (.goto 34, 3) := by decide +kernel
theorem dX8_scrapes_100 : decode cX8_scrapes 100 = .ok (.iload_n 2, 1) := by decide +kernel
theorem dX8_scrapes_101 : decode cX8_scrapes 101 = .ok (.bipush 12, 2) := by decide +kernel
theorem dX8_scrapes_103 : decode cX8_scrapes 103 = .ok (.if_icmp .ge 17, 3) := by decide +kernel
theorem dX8_scrapes_106 : decode cX8_scrapes 106 = .ok (.aload_n 0, 1) := by decide +kernel
theorem dX8_scrapes_107 : decode cX8_scrapes 107 = .ok (.getfield 34, 3) := by decide +kernel
theorem dX8_scrapes_110 : decode cX8_scrapes 110 = .ok (.bipush 8, 2) := by decide +kernel
theorem dX8_scrapes_112 : decode cX8_scrapes 112 = .ok (.iload_n 1, 1) := by decide +kernel
theorem dX8_scrapes_113 : decode cX8_scrapes 113 = .ok (.imul, 1) := by decide +kernel
theorem dX8_scrapes_114 : decode cX8_scrapes 114 = .ok (.iload_n 3, 1) := by decide +kernel
theorem dX8_scrapes_115 : decode cX8_scrapes 115 = .ok (.iadd, 1) := by decide +kernel
theorem dX8_scrapes_116 : decode cX8_scrapes 116 = .ok (.iaload, 1) := by decide +kernel
theorem dX8_scrapes_117 : decode cX8_scrapes 117 = .ok (.goto 14, 3) := by decide +kernel
theorem dX8_scrapes_120 : decode cX8_scrapes 120 = .ok (.aload_n 0, 1) := by decide +kernel
theorem dX8_scrapes_121 : decode cX8_scrapes 121 = .ok (.getfield 37, 3) := by decide +kernel
theorem dX8_scrapes_124 : decode cX8_scrapes 124 = .ok (.bipush 8, 2) := by decide +kernel
theorem dX8_scrapes_126 : decode cX8_scrapes 126 = .ok (.iload_n 1, 1) := by decide +kernel
theorem dX8_scrapes_127 : decode cX8_scrapes 127 = .ok (.imul, 1) := by decide +kernel
theorem dX8_scrapes_128 : decode cX8_scrapes 128 = .ok (.iload_n 3, 1) := by decide +kernel
theorem dX8_scrapes_129 : decode cX8_scrapes 129 = .ok (.iadd, 1) := by decide +kernel
theorem dX8_scrapes_130 : decode cX8_scrapes 130 = .ok (.iaload, 1) := by decide +kernel
theorem dX8_scrapes_131 : decode cX8_scrapes 131 = .ok (.ireturn, 1) := by decide +kernel
theorem dX8_takeSpan_0 : decode cX8_takeSpan 0 = .ok (.aload_n 0, 1) := by decide +kernel
theorem dX8_takeSpan_1 : decode cX8_takeSpan 1 = .ok (.iconst 0, 1) := by decide +kernel
theorem dX8_takeSpan_2 : decode cX8_takeSpan 2 = .ok (.iload_n 2, 1) := by decide +kernel
theorem dX8_takeSpan_3 : decode cX8_takeSpan 3 = .ok (.invokevirtual 191, 3) := by decide +kernel
theorem dX8_takeSpan_6 : decode cX8_takeSpan 6 = .ok (.istore_n 3, 1) := by decide +kernel
theorem dX8_takeSpan_7 : decode cX8_takeSpan 7 = .ok (.aload_n 0, 1) := by decide +kernel
theorem dX8_takeSpan_8 : decode cX8_takeSpan 8 = .ok (.getfield 56, 3) := by decide +kernel
theorem dX8_takeSpan_11 : decode cX8_takeSpan 11 = .ok (.iload_n 1, 1) := by decide +kernel
theorem dX8_takeSpan_12 : decode cX8_takeSpan 12 = .ok (.aload_n 0, 1) := by decide +kernel
theorem dX8_takeSpan_13 : decode cX8_takeSpan 13 = .ok (.getfield 165, 3) := by decide +kernel
theorem dX8_takeSpan_16 : decode cX8_takeSpan 16 = .ok (.iastore, 1) := by decide +kernel
theorem dX8_takeSpan_17 : decode cX8_takeSpan 17 = .ok (.iload_n 3, 1) := by decide +kernel
theorem dX8_takeSpan_18 : decode cX8_takeSpan 18 = .ok (.ifCond .le 7, 3) := by decide +kernel
theorem dX8_takeSpan_21 : decode cX8_takeSpan 21 = .ok (.iload_n 3, 1) := by decide +kernel
theorem dX8_takeSpan_22 : decode cX8_takeSpan 22 = .ok (.goto 14, 3) := by decide +kernel
theorem dX8_takeSpan_25 : decode cX8_takeSpan 25 = .ok (.aload_n 0, 1) := by decide +kernel
theorem dX8_takeSpan_26 : decode cX8_takeSpan 26 = .ok (.aload_n 0, 1) := by decide +kernel
theorem dX8_takeSpan_27 : decode cX8_takeSpan 27 = .ok (.getfield 56, 3) := by decide +kernel
theorem dX8_takeSpan_30 : decode cX8_takeSpan 30 = .ok (.iload_n 1, 1) := by decide +kernel
theorem dX8_takeSpan_31 : decode cX8_takeSpan 31 = .ok (.iaload, 1) := by decide +kernel
theorem dX8_takeSpan_32 : decode cX8_takeSpan 32 = .ok (.iload_n 2, 1) := by decide +kernel
theorem dX8_takeSpan_33 : decode cX8_takeSpan 33 = .ok (.invokevirtual 191, 3) := by decide +kernel
theorem dX8_takeSpan_36 : decode cX8_takeSpan 36 = .ok (.istore_n 3, 1) := by decide +kernel
theorem dX8_takeSpan_37 : decode cX8_takeSpan 37 = .ok (.aload_n 0, 1) := by decide +kernel
theorem dX8_takeSpan_38 : decode cX8_takeSpan 38 = .ok (.getfield 56, 3) := by decide +kernel
theorem dX8_takeSpan_41 : decode cX8_takeSpan 41 = .ok (.iload_n 1, 1) := by decide +kernel
theorem dX8_takeSpan_42 : decode cX8_takeSpan 42 = .ok (.iconst 1, 1) := by decide +kernel
theorem dX8_takeSpan_43 : decode cX8_takeSpan 43 = .ok (.iadd, 1) := by decide +kernel
theorem dX8_takeSpan_44 : decode cX8_takeSpan 44 = .ok (.aload_n 0, 1) := by decide +kernel
theorem dX8_takeSpan_45 : decode cX8_takeSpan 45 = .ok (.getfield 165, 3) := by decide +kernel
theorem dX8_takeSpan_48 : decode cX8_takeSpan 48 = .ok (.iastore, 1) := by decide +kernel
theorem dX8_takeSpan_49 : decode cX8_takeSpan 49 = .ok (.iload_n 3, 1) := by decide +kernel
theorem dX8_takeSpan_50 : decode cX8_takeSpan 50 = .ok (.ireturn, 1) := by decide +kernel
theorem dX8_takeRule_0 : decode cX8_takeRule 0 = .ok (.aload_n 0, 1) := by decide +kernel
theorem dX8_takeRule_1 : decode cX8_takeRule 1 = .ok (.invokevirtual 178, 3) := by decide +kernel
theorem dX8_takeRule_4 : decode cX8_takeRule 4 = .ok (.ldc2_w 244, 3) := by decide +kernel
theorem dX8_takeRule_7 : decode cX8_takeRule 7 = .ok (.lstore_n 1, 1) := by decide +kernel
theorem dX8_takeRule_8 : decode cX8_takeRule 8 = .ok (.aload_n 0, 1) := by decide +kernel
theorem dX8_takeRule_9 : decode cX8_takeRule 9 = .ok (.getfield 135, 3) := by decide +kernel
theorem dX8_takeRule_12 : decode cX8_takeRule 12 = .ok (.lload_n 1, 1) := by decide +kernel
theorem dX8_takeRule_13 : decode cX8_takeRule 13 = .ok (.lcmp, 1) := by decide +kernel
theorem dX8_takeRule_14 : decode cX8_takeRule 14 = .ok (.ifCond .ne 17, 3) := by decide +kernel
theorem dX8_takeRule_17 : decode cX8_takeRule 17 = .ok (.aload_n 0, 1) := by decide +kernel
theorem dX8_takeRule_18 : decode cX8_takeRule 18 = .ok (.getfield 53, 3) := by decide +kernel
theorem dX8_takeRule_21 : decode cX8_takeRule 21 = .ok (.aload_n 0, 1) := by decide +kernel
theorem dX8_takeRule_22 : decode cX8_takeRule 22 = .ok (.getfield 246, 3) := by decide +kernel
theorem dX8_takeRule_25 : decode cX8_takeRule 25 = .ok (.iaload, 1) := by decide +kernel
theorem dX8_takeRule_26 : decode cX8_takeRule 26 = .ok (.bipush 6, 2) := by decide +kernel
theorem dX8_takeRule_28 : decode cX8_takeRule 28 = .ok (.if_icmp .ne 26, 3) := by decide +kernel
theorem dX8_takeRule_31 : decode cX8_takeRule 31 = .ok (.aload_n 0, 1) := by decide +kernel
theorem dX8_takeRule_32 : decode cX8_takeRule 32 = .ok (.aload_n 0, 1) := by decide +kernel
theorem dX8_takeRule_33 : decode cX8_takeRule 33 = .ok (.getfield 135, 3) := by decide +kernel
theorem dX8_takeRule_36 : decode cX8_takeRule 36 = .ok (.lload_n 1, 1) := by decide +kernel
theorem dX8_takeRule_37 : decode cX8_takeRule 37 = .ok (.lcmp, 1) := by decide +kernel
theorem dX8_takeRule_38 : decode cX8_takeRule 38 = .ok (.ifCond .eq 7, 3) := by decide +kernel
theorem dX8_takeRule_41 : decode cX8_takeRule 41 = .ok (.iconst 1, 1) := by decide +kernel
theorem dX8_takeRule_42 : decode cX8_takeRule 42 = .ok (.goto 4, 3) := by decide +kernel
theorem dX8_takeRule_45 : decode cX8_takeRule 45 = .ok (.iconst 3, 1) := by decide +kernel
theorem dX8_takeRule_46 : decode cX8_takeRule 46 = .ok (.aload_n 0, 1) := by decide +kernel
theorem dX8_takeRule_47 : decode cX8_takeRule 47 = .ok (.getfield 128, 3) := by decide +kernel
theorem dX8_takeRule_50 : decode cX8_takeRule 50 = .ok (.invokevirtual 158, 3) := by decide +kernel
theorem dX8_takeRule_53 : decode cX8_takeRule 53 = .ok (.ireturn, 1) := by decide +kernel
theorem dX8_takeRule_54 : decode cX8_takeRule 54 = .ok (.aload_n 0, 1) := by decide +kernel
theorem dX8_takeRule_55 : decode cX8_takeRule 55 = .ok (.aload_n 0, 1) := by decide +kernel
theorem dX8_takeRule_56 : decode cX8_takeRule 56 = .ok (.getfield 139, 3) := by decide +kernel
theorem dX8_takeRule_59 : decode cX8_takeRule 59 = .ok (.putfield 128, 3) := by decide +kernel
theorem dX8_takeRule_62 : decode cX8_takeRule 62 = .ok (.bipush 30, 2) := by decide +kernel
theorem dX8_takeRule_64 : decode cX8_takeRule 64 = .ok (.aload_n 0, 1) := by decide +kernel
theorem dX8_takeRule_65 : decode cX8_takeRule 65 = .ok (.getfield 246, 3) := by decide +kernel
theorem dX8_takeRule_68 : decode cX8_takeRule 68 = .ok (.imul, 1) := by decide +kernel
theorem dX8_takeRule_69 : decode cX8_takeRule 69 = .ok (.iconst 5, 1) := by decide +kernel
theorem dX8_takeRule_70 : decode cX8_takeRule 70 = .ok (.aload_n 0, 1) := by decide +kernel
theorem dX8_takeRule_71 : decode cX8_takeRule 71 = .ok (.getfield 53, 3) := by decide +kernel
theorem dX8_takeRule_74 : decode cX8_takeRule 74 = .ok (.aload_n 0, 1) := by decide +kernel
theorem dX8_takeRule_75 : decode cX8_takeRule 75 = .ok (.getfield 246, 3) := by decide +kernel
theorem dX8_takeRule_78 : decode cX8_takeRule 78 = .ok (.iaload, 1) := by decide +kernel
theorem dX8_takeRule_79 : decode cX8_takeRule 79 = .ok (.imul, 1) := by decide +kernel
theorem dX8_takeRule_80 : decode cX8_takeRule 80 = .ok (.iadd, 1) := by decide +kernel
theorem dX8_takeRule_81 : decode cX8_takeRule 81 = .ok (.istore_n 3, 1) := by decide +kernel
theorem dX8_takeRule_82 : decode cX8_takeRule 82 = .ok (.aload_n 0, 1) := by decide +kernel
theorem dX8_takeRule_83 : decode cX8_takeRule 83 = .ok (.iconst 0, 1) := by decide +kernel
theorem dX8_takeRule_84 : decode cX8_takeRule 84 = .ok (.sipush 999, 3) := by decide +kernel
theorem dX8_takeRule_87 : decode cX8_takeRule 87 = .ok (.invokevirtual 191, 3) := by decide +kernel
theorem dX8_takeRule_90 : decode cX8_takeRule 90 = .ok (.istore 4, 2) := by decide +kernel
theorem dX8_takeRule_92 : decode cX8_takeRule 92 = .ok (.aload_n 0, 1) := by decide +kernel
theorem dX8_takeRule_93 : decode cX8_takeRule 93 = .ok (.getfield 56, 3) := by decide +kernel
theorem dX8_takeRule_96 : decode cX8_takeRule 96 = .ok (.iload_n 3, 1) := by decide +kernel
theorem dX8_takeRule_97 : decode cX8_takeRule 97 = .ok (.aload_n 0, 1) := by decide +kernel
theorem dX8_takeRule_98 : decode cX8_takeRule 98 = .ok (.getfield 165, 3) := by decide +kernel
theorem dX8_takeRule_101 : decode cX8_takeRule 101 = .ok (.iastore, 1) := by decide +kernel
theorem dX8_takeRule_102 : decode cX8_takeRule 102 = .ok (.aload_n 0, 1) := by decide +kernel
theorem dX8_takeRule_103 : decode cX8_takeRule 103 = .ok (.getfield 56, 3) := by decide +kernel
theorem dX8_takeRule_106 : decode cX8_takeRule 106 = .ok (.iload_n 3, 1) := by decide +kernel
theorem dX8_takeRule_107 : decode cX8_takeRule 107 = .ok (.iconst 1, 1) := by decide +kernel
theorem dX8_takeRule_108 : decode cX8_takeRule 108 = .ok (.iadd, 1) := by decide +kernel
theorem dX8_takeRule_109 : decode cX8_takeRule 109 = .ok (.iconst 0, 1) := by decide +kernel
theorem dX8_takeRule_110 : decode cX8_takeRule 110 = .ok (.iastore, 1) := by decide +kernel
theorem dX8_takeRule_111 : decode cX8_takeRule 111 = .ok (.aload_n 0, 1) := by decide +kernel
theorem dX8_takeRule_112 : decode cX8_takeRule 112 = .ok (.getfield 56, 3) := by decide +kernel
theorem dX8_takeRule_115 : decode cX8_takeRule 115 = .ok (.iload_n 3, 1) := by decide +kernel
theorem dX8_takeRule_116 : decode cX8_takeRule 116 = .ok (.iconst 2, 1) := by decide +kernel
theorem dX8_takeRule_117 : decode cX8_takeRule 117 = .ok (.iadd, 1) := by decide +kernel
theorem dX8_takeRule_118 : decode cX8_takeRule 118 = .ok (.bipush 9, 2) := by decide +kernel
theorem dX8_takeRule_120 : decode cX8_takeRule 120 = .ok (.iastore, 1) := by decide +kernel
theorem dX8_takeRule_121 : decode cX8_takeRule 121 = .ok (.aload_n 0, 1) := by decide +kernel
theorem dX8_takeRule_122 : decode cX8_takeRule 122 = .ok (.getfield 56, 3) := by decide +kernel
theorem dX8_takeRule_125 : decode cX8_takeRule 125 = .ok (.iload_n 3, 1) := by decide +kernel
theorem dX8_takeRule_126 : decode cX8_takeRule 126 = .ok (.iconst 3, 1) := by decide +kernel
theorem dX8_takeRule_127 : decode cX8_takeRule 127 = .ok (.iadd, 1) := by decide +kernel
theorem dX8_takeRule_128 : decode cX8_takeRule 128 = .ok (.iconst 0, 1) := by decide +kernel
theorem dX8_takeRule_129 : decode cX8_takeRule 129 = .ok (.iastore, 1) := by decide +kernel
theorem dX8_takeRule_130 : decode cX8_takeRule 130 = .ok (.aload_n 0, 1) := by decide +kernel
theorem dX8_takeRule_131 : decode cX8_takeRule 131 = .ok (.getfield 56, 3) := by decide +kernel
theorem dX8_takeRule_134 : decode cX8_takeRule 134 = .ok (.iload_n 3, 1) := by decide +kernel
theorem dX8_takeRule_135 : decode cX8_takeRule 135 = .ok (.iconst 4, 1) := by decide +kernel
theorem dX8_takeRule_136 : decode cX8_takeRule 136 = .ok (.iadd, 1) := by decide +kernel
theorem dX8_takeRule_137 : decode cX8_takeRule 137 = .ok (.bipush 11, 2) := by decide +kernel
theorem dX8_takeRule_139 : decode cX8_takeRule 139 = .ok (.iastore, 1) := by decide +kernel
theorem dX8_takeRule_140 : decode cX8_takeRule 140 = .ok (.iconst 0, 1) := by decide +kernel
theorem dX8_takeRule_141 : decode cX8_takeRule 141 = .ok (.istore 5, 2) := by decide +kernel
theorem dX8_takeRule_143 : decode cX8_takeRule 143 = .ok (.iload 4, 2) := by decide +kernel
theorem dX8_takeRule_145 : decode cX8_takeRule 145 = .ok (.ifCond .ne 144, 3) := by decide +kernel
theorem dX8_takeRule_148 : decode cX8_takeRule 148 = .ok (.aload_n 0, 1) := by decide +kernel
theorem dX8_takeRule_149 : decode cX8_takeRule 149 = .ok (.invokevirtual 131, 3) := by decide +kernel
theorem dX8_takeRule_152 : decode cX8_takeRule 152 = .ok (.bipush 59, 2) := by decide +kernel
theorem dX8_takeRule_154 : decode cX8_takeRule 154 = .ok (.if_icmp .eq 135, 3) := by decide +kernel
theorem dX8_takeRule_157 : decode cX8_takeRule 157 = .ok (.aload_n 0, 1) := by decide +kernel
theorem dX8_takeRule_158 : decode cX8_takeRule 158 = .ok (.invokevirtual 178, 3) := by decide +kernel
theorem dX8_takeRule_161 : decode cX8_takeRule 161 = .ok (.aload_n 0, 1) := by decide +kernel
theorem dX8_takeRule_162 : decode cX8_takeRule 162 = .ok (.getfield 135, 3) := by decide +kernel
theorem dX8_takeRule_165 : decode cX8_takeRule 165 = .ok (.bipush 114, 2) := by decide +kernel
theorem dX8_takeRule_167 : decode cX8_takeRule 167 = .ok (.bipush 117, 2) := by decide +kernel
theorem dX8_takeRule_169 : decode cX8_takeRule 169 = .ok (.bipush 110, 2) := by decide +kernel
theorem dX8_takeRule_171 : decode cX8_takeRule 171 = .ok (.bipush 103, 2) := by decide +kernel
theorem dX8_takeRule_173 : decode cX8_takeRule 173 = .ok (.invokestatic 170, 3) := by decide +kernel
theorem dX8_takeRule_176 : decode cX8_takeRule 176 = .ok (.bipush 115, 2) := by decide +kernel
theorem dX8_takeRule_178 : decode cX8_takeRule 178 = .ok (.invokestatic 174, 3) := by decide +kernel
theorem dX8_takeRule_181 : decode cX8_takeRule 181 = .ok (.lcmp, 1) := by decide +kernel
theorem dX8_takeRule_182 : decode cX8_takeRule 182 = .ok (.ifCond .ne 7, 3) := by decide +kernel
theorem dX8_takeRule_185 : decode cX8_takeRule 185 = .ok (.iconst 1, 1) := by decide +kernel
theorem dX8_takeRule_186 : decode cX8_takeRule 186 = .ok (.goto 37, 3) := by decide +kernel
theorem dX8_takeRule_189 : decode cX8_takeRule 189 = .ok (.aload_n 0, 1) := by decide +kernel
theorem dX8_takeRule_190 : decode cX8_takeRule 190 = .ok (.getfield 135, 3) := by decide +kernel
theorem dX8_takeRule_193 : decode cX8_takeRule 193 = .ok (.bipush 109, 2) := by decide +kernel
theorem dX8_takeRule_195 : decode cX8_takeRule 195 = .ok (.bipush 111, 2) := by decide +kernel
theorem dX8_takeRule_197 : decode cX8_takeRule 197 = .ok (.bipush 110, 2) := by decide +kernel
theorem dX8_takeRule_199 : decode cX8_takeRule 199 = .ok (.bipush 116, 2) := by decide +kernel
theorem dX8_takeRule_201 : decode cX8_takeRule 201 = .ok (.invokestatic 170, 3) := by decide +kernel
theorem dX8_takeRule_204 : decode cX8_takeRule 204 = .ok (.bipush 104, 2) := by decide +kernel
theorem dX8_takeRule_206 : decode cX8_takeRule 206 = .ok (.invokestatic 174, 3) := by decide +kernel
theorem dX8_takeRule_209 : decode cX8_takeRule 209 = .ok (.bipush 115, 2) := by decide +kernel
theorem dX8_takeRule_211 : decode cX8_takeRule 211 = .ok (.invokestatic 174, 3) := by decide +kernel
theorem dX8_takeRule_214 : decode cX8_takeRule 214 = .ok (.lcmp, 1) := by decide +kernel
theorem dX8_takeRule_215 : decode cX8_takeRule 215 = .ok (.ifCond .ne 7, 3) := by decide +kernel
theorem dX8_takeRule_218 : decode cX8_takeRule 218 = .ok (.iconst 2, 1) := by decide +kernel
theorem dX8_takeRule_219 : decode cX8_takeRule 219 = .ok (.goto 4, 3) := by decide +kernel
theorem dX8_takeRule_222 : decode cX8_takeRule 222 = .ok (.iconst 0, 1) := by decide +kernel
theorem dX8_takeRule_223 : decode cX8_takeRule 223 = .ok (.istore 6, 2) := by decide +kernel
theorem dX8_takeRule_225 : decode cX8_takeRule 225 = .ok (.iload 6, 2) := by decide +kernel
theorem dX8_takeRule_227 : decode cX8_takeRule 227 = .ok (.iload 5, 2) := by decide +kernel
theorem dX8_takeRule_229 : decode cX8_takeRule 229 = .ok (.if_icmp .gt 13, 3) := by decide +kernel
theorem dX8_takeRule_232 : decode cX8_takeRule 232 = .ok (.aload_n 0, 1) := by decide +kernel
theorem dX8_takeRule_233 : decode cX8_takeRule 233 = .ok (.iconst 1, 1) := by decide +kernel
theorem dX8_takeRule_234 : decode cX8_takeRule 234 = .ok (.aload_n 0, 1) := by decide +kernel
theorem dX8_takeRule_235 : decode cX8_takeRule 235 = .ok (.getfield 128, 3) := by decide +kernel
theorem dX8_takeRule_238 : decode cX8_takeRule 238 = .ok (.invokevirtual 158, 3) := by decide +kernel
theorem dX8_takeRule_241 : decode cX8_takeRule 241 = .ok (.ireturn, 1) := by decide +kernel
theorem dX8_takeRule_242 : decode cX8_takeRule 242 = .ok (.iload 6, 2) := by decide +kernel
theorem dX8_takeRule_244 : decode cX8_takeRule 244 = .ok (.istore 5, 2) := by decide +kernel
theorem dX8_takeRule_246 : decode cX8_takeRule 246 = .ok (.aload_n 0, 1) := by decide +kernel
theorem dX8_takeRule_247 : decode cX8_takeRule 247 = .ok (.aload_n 0, 1) := by decide +kernel
theorem dX8_takeRule_248 : decode cX8_takeRule 248 = .ok (.getfield 139, 3) := by decide +kernel
theorem dX8_takeRule_251 : decode cX8_takeRule 251 = .ok (.putfield 128, 3) := by decide +kernel
theorem dX8_takeRule_254 : decode cX8_takeRule 254 = .ok (.aload_n 0, 1) := by decide +kernel
theorem dX8_takeRule_255 : decode cX8_takeRule 255 = .ok (.iload_n 3, 1) := by decide +kernel
theorem dX8_takeRule_256 : decode cX8_takeRule 256 = .ok (.iload 6, 2) := by decide +kernel
theorem dX8_takeRule_258 : decode cX8_takeRule 258 = .ok (.iconst 1, 1) := by decide +kernel
theorem dX8_takeRule_259 : decode cX8_takeRule 259 = .ok (.if_icmp .ne 7, 3) := by decide +kernel
theorem dX8_takeRule_262 : decode cX8_takeRule 262 = .ok (.iconst 1, 1) := by decide +kernel
theorem dX8_takeRule_263 : decode cX8_takeRule 263 = .ok (.goto 4, 3) := by decide +kernel
theorem dX8_takeRule_266 : decode cX8_takeRule 266 = .ok (.iconst 3, 1) := by decide +kernel
theorem dX8_takeRule_267 : decode cX8_takeRule 267 = .ok (.iadd, 1) := by decide +kernel
theorem dX8_takeRule_268 : decode cX8_takeRule 268 = .ok (.iload 6, 2) := by decide +kernel
theorem dX8_takeRule_270 : decode cX8_takeRule 270 = .ok (.iconst 1, 1) := by decide +kernel
theorem dX8_takeRule_271 : decode cX8_takeRule 271 = .ok (.if_icmp .ne 8, 3) := by decide +kernel
theorem dX8_takeRule_274 : decode cX8_takeRule 274 = .ok (.bipush 9, 2) := by decide +kernel
theorem dX8_takeRule_276 : decode cX8_takeRule 276 = .ok (.goto 5, 3) := by decide +kernel
theorem dX8_takeRule_279 : decode cX8_takeRule 279 = .ok (.bipush 11, 2) := by decide +kernel
theorem dX8_takeRule_281 : decode cX8_takeRule 281 = .ok (.invokevirtual 249, 3) := by decide +kernel
theorem dX8_takeRule_284 : decode cX8_takeRule 284 = .ok (.istore 4, 2) := by decide +kernel
theorem dX8_takeRule_286 : decode cX8_takeRule 286 = .ok (.goto (-143), 3) := by decide +kernel
theorem dX8_takeRule_289 : decode cX8_takeRule 289 = .ok (.aload_n 0, 1) := by decide +kernel
theorem dX8_takeRule_290 : decode cX8_takeRule 290 = .ok (.getfield 53, 3) := by decide +kernel
theorem dX8_takeRule_293 : decode cX8_takeRule 293 = .ok (.aload_n 0, 1) := by decide +kernel
theorem dX8_takeRule_294 : decode cX8_takeRule 294 = .ok (.getfield 246, 3) := by decide +kernel
theorem dX8_takeRule_297 : decode cX8_takeRule 297 = .ok (.dup2, 1) := by decide +kernel
theorem dX8_takeRule_298 : decode cX8_takeRule 298 = .ok (.iaload, 1) := by decide +kernel
theorem dX8_takeRule_299 : decode cX8_takeRule 299 = .ok (.iconst 1, 1) := by decide +kernel
theorem dX8_takeRule_300 : decode cX8_takeRule 300 = .ok (.iadd, 1) := by decide +kernel
theorem dX8_takeRule_301 : decode cX8_takeRule 301 = .ok (.iastore, 1) := by decide +kernel
theorem dX8_takeRule_302 : decode cX8_takeRule 302 = .ok (.iload 4, 2) := by decide +kernel
theorem dX8_takeRule_304 : decode cX8_takeRule 304 = .ok (.ifCond .le 8, 3) := by decide +kernel
theorem dX8_takeRule_307 : decode cX8_takeRule 307 = .ok (.iload 4, 2) := by decide +kernel
theorem dX8_takeRule_309 : decode cX8_takeRule 309 = .ok (.goto 7, 3) := by decide +kernel
theorem dX8_takeRule_312 : decode cX8_takeRule 312 = .ok (.aload_n 0, 1) := by decide +kernel
theorem dX8_takeRule_313 : decode cX8_takeRule 313 = .ok (.invokevirtual 194, 3) := by decide +kernel
theorem dX8_takeRule_316 : decode cX8_takeRule 316 = .ok (.ireturn, 1) := by decide +kernel
theorem dX8_rule_0 : decode cX8_rule 0 = .ok (.aload_n 0, 1) := by decide +kernel
theorem dX8_rule_1 : decode cX8_rule 1 = .ok (.getfield 122, 3) := by decide +kernel
theorem dX8_rule_4 : decode cX8_rule 4 = .ok (.bipush 120, 2) := by decide +kernel
theorem dX8_rule_6 : decode cX8_rule 6 = .ok (.if_icmp .le 6, 3) := by decide +kernel
theorem dX8_rule_9 : decode cX8_rule 9 = .ok (.ldc 227, 2) := by decide +kernel
theorem dX8_rule_11 : decode cX8_rule 11 = .ok (.ireturn, 1) := by decide +kernel
theorem dX8_rule_12 : decode cX8_rule 12 = .ok (.aload_n 0, 1) := by decide +kernel
theorem dX8_rule_13 : decode cX8_rule 13 = .ok (.getfield 246, 3) := by decide +kernel
theorem dX8_rule_16 : decode cX8_rule 16 = .ok (.iconst 4, 1) := by decide +kernel
theorem dX8_rule_17 : decode cX8_rule 17 = .ok (.if_icmp .ne 6, 3) := by decide +kernel
theorem dX8_rule_20 : decode cX8_rule 20 = .ok (.ldc 125, 2) := by decide +kernel
theorem dX8_rule_22 : decode cX8_rule 22 = .ok (.ireturn, 1) := by decide +kernel
theorem dX8_rule_23 : decode cX8_rule 23 = .ok (.aload_n 0, 1) := by decide +kernel
theorem dX8_rule_24 : decode cX8_rule 24 = .ok (.iconst (-1), 1) := by decide +kernel
theorem dX8_rule_25 : decode cX8_rule 25 = .ok (.putfield 49, 3) := by decide +kernel
theorem dX8_rule_28 : decode cX8_rule 28 = .ok (.aload_n 0, 1) := by decide +kernel
theorem dX8_rule_29 : decode cX8_rule 29 = .ok (.iconst 0, 1) := by decide +kernel
theorem dX8_rule_30 : decode cX8_rule 30 = .ok (.putfield 128, 3) := by decide +kernel
theorem dX8_rule_33 : decode cX8_rule 33 = .ok (.aload_n 0, 1) := by decide +kernel
theorem dX8_rule_34 : decode cX8_rule 34 = .ok (.getfield 53, 3) := by decide +kernel
theorem dX8_rule_37 : decode cX8_rule 37 = .ok (.aload_n 0, 1) := by decide +kernel
theorem dX8_rule_38 : decode cX8_rule 38 = .ok (.getfield 246, 3) := by decide +kernel
theorem dX8_rule_41 : decode cX8_rule 41 = .ok (.iconst 0, 1) := by decide +kernel
theorem dX8_rule_42 : decode cX8_rule 42 = .ok (.iastore, 1) := by decide +kernel
theorem dX8_rule_43 : decode cX8_rule 43 = .ok (.iconst 0, 1) := by decide +kernel
theorem dX8_rule_44 : decode cX8_rule 44 = .ok (.istore_n 1, 1) := by decide +kernel
theorem dX8_rule_45 : decode cX8_rule 45 = .ok (.iload_n 1, 1) := by decide +kernel
theorem dX8_rule_46 : decode cX8_rule 46 = .ok (.ifCond .ne 18, 3) := by decide +kernel
theorem dX8_rule_49 : decode cX8_rule 49 = .ok (.aload_n 0, 1) := by decide +kernel
theorem dX8_rule_50 : decode cX8_rule 50 = .ok (.invokevirtual 131, 3) := by decide +kernel
theorem dX8_rule_53 : decode cX8_rule 53 = .ok (.ifCond .lt 11, 3) := by decide +kernel
theorem dX8_rule_56 : decode cX8_rule 56 = .ok (.aload_n 0, 1) := by decide +kernel
theorem dX8_rule_57 : decode cX8_rule 57 = .ok (.invokevirtual 252, 3) := by decide +kernel
theorem dX8_rule_60 : decode cX8_rule 60 = .ok (.istore_n 1, 1) := by decide +kernel
theorem dX8_rule_61 : decode cX8_rule 61 = .ok (.goto (-16), 3) := by decide +kernel
theorem dX8_rule_64 : decode cX8_rule 64 = .ok (.aload_n 0, 1) := by decide +kernel
theorem dX8_rule_65 : decode cX8_rule 65 = .ok (.iconst 0, 1) := by decide +kernel
theorem dX8_rule_66 : decode cX8_rule 66 = .ok (.putfield 122, 3) := by decide +kernel
theorem dX8_rule_69 : decode cX8_rule 69 = .ok (.iload_n 1, 1) := by decide +kernel
theorem dX8_rule_70 : decode cX8_rule 70 = .ok (.ifCond .le 8, 3) := by decide +kernel
theorem dX8_rule_73 : decode cX8_rule 73 = .ok (.bipush (-10), 2) := by decide +kernel
theorem dX8_rule_75 : decode cX8_rule 75 = .ok (.iload_n 1, 1) := by decide +kernel
theorem dX8_rule_76 : decode cX8_rule 76 = .ok (.isub, 1) := by decide +kernel
theorem dX8_rule_77 : decode cX8_rule 77 = .ok (.ireturn, 1) := by decide +kernel
theorem dX8_rule_78 : decode cX8_rule 78 = .ok (.aload_n 0, 1) := by decide +kernel
theorem dX8_rule_79 : decode cX8_rule 79 = .ok (.dup, 1) := by decide +kernel
theorem dX8_rule_80 : decode cX8_rule 80 = .ok (.getfield 246, 3) := by decide +kernel
theorem dX8_rule_83 : decode cX8_rule 83 = .ok (.iconst 1, 1) := by decide +kernel
theorem dX8_rule_84 : decode cX8_rule 84 = .ok (.iadd, 1) := by decide +kernel
theorem dX8_rule_85 : decode cX8_rule 85 = .ok (.putfield 246, 3) := by decide +kernel
theorem dX8_rule_88 : decode cX8_rule 88 = .ok (.aload_n 0, 1) := by decide +kernel
theorem dX8_rule_89 : decode cX8_rule 89 = .ok (.getfield 246, 3) := by decide +kernel
theorem dX8_rule_92 : decode cX8_rule 92 = .ok (.iconst 1, 1) := by decide +kernel
theorem dX8_rule_93 : decode cX8_rule 93 = .ok (.isub, 1) := by decide +kernel
theorem dX8_rule_94 : decode cX8_rule 94 = .ok (.ireturn, 1) := by decide +kernel
theorem dX8_isRule_0 : decode cX8_isRule 0 = .ok (.iload_n 1, 1) := by decide +kernel
theorem dX8_isRule_1 : decode cX8_isRule 1 = .ok (.i2l, 1) := by decide +kernel
theorem dX8_isRule_2 : decode cX8_isRule 2 = .ok (.lconst 0, 1) := by decide +kernel
theorem dX8_isRule_3 : decode cX8_isRule 3 = .ok (.aload_n 0, 1) := by decide +kernel
theorem dX8_isRule_4 : decode cX8_isRule 4 = .ok (.getfield 246, 3) := by decide +kernel
theorem dX8_isRule_7 : decode cX8_isRule 7 = .ok (.iconst 1, 1) := by decide +kernel
theorem dX8_isRule_8 : decode cX8_isRule 8 = .ok (.isub, 1) := by decide +kernel
theorem dX8_isRule_9 : decode cX8_isRule 9 = .ok (.i2l, 1) := by decide +kernel
theorem dX8_isRule_10 : decode cX8_isRule 10 = .ok (.invokestatic 109, 3) := by decide +kernel
theorem dX8_isRule_13 : decode cX8_isRule 13 = .ok (.ireturn, 1) := by decide +kernel
theorem dX8_asksBy_0 : decode cX8_asksBy 0 = .ok (.iconst 0, 1) := by decide +kernel
theorem dX8_asksBy_1 : decode cX8_asksBy 1 = .ok (.istore 5, 2) := by decide +kernel
theorem dX8_asksBy_3 : decode cX8_asksBy 3 = .ok (.iload 5, 2) := by decide +kernel
theorem dX8_asksBy_5 : decode cX8_asksBy 5 = .ok (.aload_n 0, 1) := by decide +kernel
theorem dX8_asksBy_6 : decode cX8_asksBy 6 = .ok (.getfield 53, 3) := by decide +kernel
theorem dX8_asksBy_9 : decode cX8_asksBy 9 = .ok (.iload_n 1, 1) := by decide +kernel
theorem dX8_asksBy_10 : decode cX8_asksBy 10 = .ok (.iaload, 1) := by decide +kernel
theorem dX8_asksBy_11 : decode cX8_asksBy 11 = .ok (.if_icmp .ge 94, 3) := by decide +kernel
theorem dX8_asksBy_14 : decode cX8_asksBy 14 = .ok (.bipush 30, 2) := by decide +kernel
theorem dX8_asksBy_16 : decode cX8_asksBy 16 = .ok (.iload_n 1, 1) := by decide +kernel
theorem dX8_asksBy_17 : decode cX8_asksBy 17 = .ok (.imul, 1) := by decide +kernel
theorem dX8_asksBy_18 : decode cX8_asksBy 18 = .ok (.iconst 5, 1) := by decide +kernel
theorem dX8_asksBy_19 : decode cX8_asksBy 19 = .ok (.iload 5, 2) := by decide +kernel
theorem dX8_asksBy_21 : decode cX8_asksBy 21 = .ok (.imul, 1) := by decide +kernel
theorem dX8_asksBy_22 : decode cX8_asksBy 22 = .ok (.iadd, 1) := by decide +kernel
theorem dX8_asksBy_23 : decode cX8_asksBy 23 = .ok (.istore 6, 2) := by decide +kernel
theorem dX8_asksBy_25 : decode cX8_asksBy 25 = .ok (.iload_n 2, 1) := by decide +kernel
theorem dX8_asksBy_26 : decode cX8_asksBy 26 = .ok (.i2l, 1) := by decide +kernel
theorem dX8_asksBy_27 : decode cX8_asksBy 27 = .ok (.aload_n 0, 1) := by decide +kernel
theorem dX8_asksBy_28 : decode cX8_asksBy 28 = .ok (.getfield 56, 3) := by decide +kernel
theorem dX8_asksBy_31 : decode cX8_asksBy 31 = .ok (.iload 6, 2) := by decide +kernel
theorem dX8_asksBy_33 : decode cX8_asksBy 33 = .ok (.iconst 1, 1) := by decide +kernel
theorem dX8_asksBy_34 : decode cX8_asksBy 34 = .ok (.iadd, 1) := by decide +kernel
theorem dX8_asksBy_35 : decode cX8_asksBy 35 = .ok (.iaload, 1) := by decide +kernel
theorem dX8_asksBy_36 : decode cX8_asksBy 36 = .ok (.i2l, 1) := by decide +kernel
theorem dX8_asksBy_37 : decode cX8_asksBy 37 = .ok (.aload_n 0, 1) := by decide +kernel
theorem dX8_asksBy_38 : decode cX8_asksBy 38 = .ok (.getfield 56, 3) := by decide +kernel
theorem dX8_asksBy_41 : decode cX8_asksBy 41 = .ok (.iload 6, 2) := by decide +kernel
theorem dX8_asksBy_43 : decode cX8_asksBy 43 = .ok (.iconst 2, 1) := by decide +kernel
theorem dX8_asksBy_44 : decode cX8_asksBy 44 = .ok (.iadd, 1) := by decide +kernel
theorem dX8_asksBy_45 : decode cX8_asksBy 45 = .ok (.iaload, 1) := by decide +kernel
theorem dX8_asksBy_46 : decode cX8_asksBy 46 = .ok (.i2l, 1) := by decide +kernel
theorem dX8_asksBy_47 : decode cX8_asksBy 47 = .ok (.invokestatic 109, 3) := by decide +kernel
theorem dX8_asksBy_50 : decode cX8_asksBy 50 = .ok (.ifCond .eq 49, 3) := by decide +kernel
theorem dX8_asksBy_53 : decode cX8_asksBy 53 = .ok (.iload_n 3, 1) := by decide +kernel
theorem dX8_asksBy_54 : decode cX8_asksBy 54 = .ok (.i2l, 1) := by decide +kernel
theorem dX8_asksBy_55 : decode cX8_asksBy 55 = .ok (.aload_n 0, 1) := by decide +kernel
theorem dX8_asksBy_56 : decode cX8_asksBy 56 = .ok (.getfield 56, 3) := by decide +kernel
theorem dX8_asksBy_59 : decode cX8_asksBy 59 = .ok (.iload 6, 2) := by decide +kernel
theorem dX8_asksBy_61 : decode cX8_asksBy 61 = .ok (.iconst 3, 1) := by decide +kernel
theorem dX8_asksBy_62 : decode cX8_asksBy 62 = .ok (.iadd, 1) := by decide +kernel
theorem dX8_asksBy_63 : decode cX8_asksBy 63 = .ok (.iaload, 1) := by decide +kernel
theorem dX8_asksBy_64 : decode cX8_asksBy 64 = .ok (.i2l, 1) := by decide +kernel
theorem dX8_asksBy_65 : decode cX8_asksBy 65 = .ok (.aload_n 0, 1) := by decide +kernel
theorem dX8_asksBy_66 : decode cX8_asksBy 66 = .ok (.getfield 56, 3) := by decide +kernel
theorem dX8_asksBy_69 : decode cX8_asksBy 69 = .ok (.iload 6, 2) := by decide +kernel
theorem dX8_asksBy_71 : decode cX8_asksBy 71 = .ok (.iconst 4, 1) := by decide +kernel
theorem dX8_asksBy_72 : decode cX8_asksBy 72 = .ok (.iadd, 1) := by decide +kernel
theorem dX8_asksBy_73 : decode cX8_asksBy 73 = .ok (.iaload, 1) := by decide +kernel
theorem dX8_asksBy_74 : decode cX8_asksBy 74 = .ok (.i2l, 1) := by decide +kernel
theorem dX8_asksBy_75 : decode cX8_asksBy 75 = .ok (.invokestatic 109, 3) := by decide +kernel
theorem dX8_asksBy_78 : decode cX8_asksBy 78 = .ok (.ifCond .eq 21, 3) := by decide +kernel
theorem dX8_asksBy_81 : decode cX8_asksBy 81 = .ok (.iload 4, 2) := by decide +kernel
theorem dX8_asksBy_83 : decode cX8_asksBy 83 = .ok (.aload_n 0, 1) := by decide +kernel
theorem dX8_asksBy_84 : decode cX8_asksBy 84 = .ok (.getfield 56, 3) := by decide +kernel
theorem dX8_asksBy_87 : decode cX8_asksBy 87 = .ok (.iload 6, 2) := by decide +kernel
theorem dX8_asksBy_89 : decode cX8_asksBy 89 = .ok (.iaload, 1) := by decide +kernel
theorem dX8_asksBy_90 : decode cX8_asksBy 90 = .ok (.if_icmp .lt 7, 3) := by decide +kernel
theorem dX8_asksBy_93 : decode cX8_asksBy 93 = .ok (.iconst 1, 1) := by decide +kernel
theorem dX8_asksBy_94 : decode cX8_asksBy 94 = .ok (.goto 4, 3) := by decide +kernel
theorem dX8_asksBy_97 : decode cX8_asksBy 97 = .ok (.iconst 0, 1) := by decide +kernel
theorem dX8_asksBy_98 : decode cX8_asksBy 98 = .ok (.ireturn, 1) := by decide +kernel
theorem dX8_asksBy_99 : decode cX8_asksBy 99 = .ok (.iinc 5 1, 3) := by decide +kernel
theorem dX8_asksBy_102 : decode cX8_asksBy 102 = .ok (.goto (-99), 3) := by decide +kernel
theorem dX8_asksBy_105 : decode cX8_asksBy 105 = .ok (.iconst 1, 1) := by decide +kernel
theorem dX8_asksBy_106 : decode cX8_asksBy 106 = .ok (.ireturn, 1) := by decide +kernel
theorem dX8_place_0 : decode cX8_place 0 = .ok (.iload_n 0, 1) := by decide +kernel
theorem dX8_place_1 : decode cX8_place 1 = .ok (.bipush 30, 2) := by decide +kernel
theorem dX8_place_3 : decode cX8_place 3 = .ok (.imul, 1) := by decide +kernel
theorem dX8_place_4 : decode cX8_place 4 = .ok (.iload_n 1, 1) := by decide +kernel
theorem dX8_place_5 : decode cX8_place 5 = .ok (.iadd, 1) := by decide +kernel
theorem dX8_place_6 : decode cX8_place 6 = .ok (.bipush 10, 2) := by decide +kernel
theorem dX8_place_8 : decode cX8_place 8 = .ok (.imul, 1) := by decide +kernel
theorem dX8_place_9 : decode cX8_place 9 = .ok (.iload_n 2, 1) := by decide +kernel
theorem dX8_place_10 : decode cX8_place 10 = .ok (.iadd, 1) := by decide +kernel
theorem dX8_place_11 : decode cX8_place 11 = .ok (.bipush 52, 2) := by decide +kernel
theorem dX8_place_13 : decode cX8_place 13 = .ok (.imul, 1) := by decide +kernel
theorem dX8_place_14 : decode cX8_place 14 = .ok (.iconst 4, 1) := by decide +kernel
theorem dX8_place_15 : decode cX8_place 15 = .ok (.iload_n 3, 1) := by decide +kernel
theorem dX8_place_16 : decode cX8_place 16 = .ok (.imul, 1) := by decide +kernel
theorem dX8_place_17 : decode cX8_place 17 = .ok (.iadd, 1) := by decide +kernel
theorem dX8_place_18 : decode cX8_place 18 = .ok (.iload 4, 2) := by decide +kernel
theorem dX8_place_20 : decode cX8_place 20 = .ok (.iadd, 1) := by decide +kernel
theorem dX8_place_21 : decode cX8_place 21 = .ok (.ireturn, 1) := by decide +kernel
theorem dX8_more_0 : decode cX8_more 0 = .ok (.iload_n 1, 1) := by decide +kernel
theorem dX8_more_1 : decode cX8_more 1 = .ok (.iconst 3, 1) := by decide +kernel
theorem dX8_more_2 : decode cX8_more 2 = .ok (.if_icmp .ne 7, 3) := by decide +kernel
theorem dX8_more_5 : decode cX8_more 5 = .ok (.iconst 3, 1) := by decide +kernel
theorem dX8_more_6 : decode cX8_more 6 = .ok (.goto 6, 3) := by decide +kernel
theorem dX8_more_9 : decode cX8_more 9 = .ok (.iload_n 1, 1) := by decide +kernel
theorem dX8_more_10 : decode cX8_more 10 = .ok (.iconst 1, 1) := by decide +kernel
theorem dX8_more_11 : decode cX8_more 11 = .ok (.iadd, 1) := by decide +kernel
theorem dX8_more_12 : decode cX8_more 12 = .ok (.ireturn, 1) := by decide +kernel
theorem dX8_bears_0 : decode cX8_bears 0 = .ok (.iload_n 1, 1) := by decide +kernel
theorem dX8_bears_1 : decode cX8_bears 1 = .ok (.aload_n 0, 1) := by decide +kernel
theorem dX8_bears_2 : decode cX8_bears 2 = .ok (.getfield 25, 3) := by decide +kernel
theorem dX8_bears_5 : decode cX8_bears 5 = .ok (.aload_n 0, 1) := by decide +kernel
theorem dX8_bears_6 : decode cX8_bears 6 = .ok (.getfield 255, 3) := by decide +kernel
theorem dX8_bears_9 : decode cX8_bears 9 = .ok (.iaload, 1) := by decide +kernel
theorem dX8_bears_10 : decode cX8_bears 10 = .ok (.if_icmp .ge 7, 3) := by decide +kernel
theorem dX8_bears_13 : decode cX8_bears 13 = .ok (.iload_n 1, 1) := by decide +kernel
theorem dX8_bears_14 : decode cX8_bears 14 = .ok (.goto 12, 3) := by decide +kernel
theorem dX8_bears_17 : decode cX8_bears 17 = .ok (.aload_n 0, 1) := by decide +kernel
theorem dX8_bears_18 : decode cX8_bears 18 = .ok (.getfield 25, 3) := by decide +kernel
theorem dX8_bears_21 : decode cX8_bears 21 = .ok (.aload_n 0, 1) := by decide +kernel
theorem dX8_bears_22 : decode cX8_bears 22 = .ok (.getfield 255, 3) := by decide +kernel
theorem dX8_bears_25 : decode cX8_bears 25 = .ok (.iaload, 1) := by decide +kernel
theorem dX8_bears_26 : decode cX8_bears 26 = .ok (.ireturn, 1) := by decide +kernel
theorem dX8_asks_0 : decode cX8_asks 0 = .ok (.aload_n 0, 1) := by decide +kernel
theorem dX8_asks_1 : decode cX8_asks 1 = .ok (.getfield 258, 3) := by decide +kernel
theorem dX8_asks_4 : decode cX8_asks 4 = .ok (.ifCond .lt 17, 3) := by decide +kernel
theorem dX8_asks_7 : decode cX8_asks 7 = .ok (.aload_n 0, 1) := by decide +kernel
theorem dX8_asks_8 : decode cX8_asks 8 = .ok (.aload_n 0, 1) := by decide +kernel
theorem dX8_asks_9 : decode cX8_asks 9 = .ok (.getfield 258, 3) := by decide +kernel
theorem dX8_asks_12 : decode cX8_asks 12 = .ok (.iload_n 3, 1) := by decide +kernel
theorem dX8_asks_13 : decode cX8_asks 13 = .ok (.iload 4, 2) := by decide +kernel
theorem dX8_asks_15 : decode cX8_asks 15 = .ok (.iload 6, 2) := by decide +kernel
theorem dX8_asks_17 : decode cX8_asks 17 = .ok (.invokevirtual 261, 3) := by decide +kernel
theorem dX8_asks_20 : decode cX8_asks 20 = .ok (.ireturn, 1) := by decide +kernel
theorem dX8_asks_21 : decode cX8_asks 21 = .ok (.sipush 1000, 3) := by decide +kernel
theorem dX8_asks_24 : decode cX8_asks 24 = .ok (.aload_n 0, 1) := by decide +kernel
theorem dX8_asks_25 : decode cX8_asks 25 = .ok (.iload 6, 2) := by decide +kernel
theorem dX8_asks_27 : decode cX8_asks 27 = .ok (.invokevirtual 265, 3) := by decide +kernel
theorem dX8_asks_30 : decode cX8_asks 30 = .ok (.imul, 1) := by decide +kernel
theorem dX8_asks_31 : decode cX8_asks 31 = .ok (.aload_n 0, 1) := by decide +kernel
theorem dX8_asks_32 : decode cX8_asks 32 = .ok (.getfield 62, 3) := by decide +kernel
theorem dX8_asks_35 : decode cX8_asks 35 = .ok (.iload_n 1, 1) := by decide +kernel
theorem dX8_asks_36 : decode cX8_asks 36 = .ok (.iload_n 2, 1) := by decide +kernel
theorem dX8_asks_37 : decode cX8_asks 37 = .ok (.iload_n 3, 1) := by decide +kernel
theorem dX8_asks_38 : decode cX8_asks 38 = .ok (.iload 4, 2) := by decide +kernel
theorem dX8_asks_40 : decode cX8_asks 40 = .ok (.iconst 1, 1) := by decide +kernel
theorem dX8_asks_41 : decode cX8_asks 41 = .ok (.iadd, 1) := by decide +kernel
theorem dX8_asks_42 : decode cX8_asks 42 = .ok (.aload_n 0, 1) := by decide +kernel
theorem dX8_asks_43 : decode cX8_asks 43 = .ok (.iload 5, 2) := by decide +kernel
theorem dX8_asks_45 : decode cX8_asks 45 = .ok (.invokevirtual 269, 3) := by decide +kernel
theorem dX8_asks_48 : decode cX8_asks 48 = .ok (.invokestatic 272, 3) := by decide +kernel
theorem dX8_asks_51 : decode cX8_asks 51 = .ok (.iaload, 1) := by decide +kernel
theorem dX8_asks_52 : decode cX8_asks 52 = .ok (.iadd, 1) := by decide +kernel
theorem dX8_asks_53 : decode cX8_asks 53 = .ok (.istore 7, 2) := by decide +kernel
theorem dX8_asks_55 : decode cX8_asks 55 = .ok (.iload 7, 2) := by decide +kernel
theorem dX8_asks_57 : decode cX8_asks 57 = .ok (.sipush 1000, 3) := by decide +kernel
theorem dX8_asks_60 : decode cX8_asks 60 = .ok (.iload 6, 2) := by decide +kernel
theorem dX8_asks_62 : decode cX8_asks 62 = .ok (.imul, 1) := by decide +kernel
theorem dX8_asks_63 : decode cX8_asks 63 = .ok (.aload_n 0, 1) := by decide +kernel
theorem dX8_asks_64 : decode cX8_asks 64 = .ok (.getfield 62, 3) := by decide +kernel
theorem dX8_asks_67 : decode cX8_asks 67 = .ok (.iload_n 1, 1) := by decide +kernel
theorem dX8_asks_68 : decode cX8_asks 68 = .ok (.iload_n 2, 1) := by decide +kernel
theorem dX8_asks_69 : decode cX8_asks 69 = .ok (.iload_n 3, 1) := by decide +kernel
theorem dX8_asks_70 : decode cX8_asks 70 = .ok (.iload 4, 2) := by decide +kernel
theorem dX8_asks_72 : decode cX8_asks 72 = .ok (.iconst 1, 1) := by decide +kernel
theorem dX8_asks_73 : decode cX8_asks 73 = .ok (.iadd, 1) := by decide +kernel
theorem dX8_asks_74 : decode cX8_asks 74 = .ok (.iload 5, 2) := by decide +kernel
theorem dX8_asks_76 : decode cX8_asks 76 = .ok (.invokestatic 272, 3) := by decide +kernel
theorem dX8_asks_79 : decode cX8_asks 79 = .ok (.iaload, 1) := by decide +kernel
theorem dX8_asks_80 : decode cX8_asks 80 = .ok (.iadd, 1) := by decide +kernel
theorem dX8_asks_81 : decode cX8_asks 81 = .ok (.if_icmp .ge 7, 3) := by decide +kernel
theorem dX8_asks_84 : decode cX8_asks 84 = .ok (.iconst 1, 1) := by decide +kernel
theorem dX8_asks_85 : decode cX8_asks 85 = .ok (.goto 4, 3) := by decide +kernel
theorem dX8_asks_88 : decode cX8_asks 88 = .ok (.iconst 0, 1) := by decide +kernel
theorem dX8_asks_89 : decode cX8_asks 89 = .ok (.ireturn, 1) := by decide +kernel
theorem dX8_fillYear_0 : decode cX8_fillYear 0 = .ok (.iconst 0, 1) := by decide +kernel
theorem dX8_fillYear_1 : decode cX8_fillYear 1 = .ok (.istore 4, 2) := by decide +kernel
theorem dX8_fillYear_3 : decode cX8_fillYear 3 = .ok (.iload 4, 2) := by decide +kernel
theorem dX8_fillYear_5 : decode cX8_fillYear 5 = .ok (.iconst 4, 1) := by decide +kernel
theorem dX8_fillYear_6 : decode cX8_fillYear 6 = .ok (.if_icmp .ge 47, 3) := by decide +kernel
theorem dX8_fillYear_9 : decode cX8_fillYear 9 = .ok (.aload_n 0, 1) := by decide +kernel
theorem dX8_fillYear_10 : decode cX8_fillYear 10 = .ok (.getfield 62, 3) := by decide +kernel
theorem dX8_fillYear_13 : decode cX8_fillYear 13 = .ok (.iload_n 1, 1) := by decide +kernel
theorem dX8_fillYear_14 : decode cX8_fillYear 14 = .ok (.iload_n 2, 1) := by decide +kernel
theorem dX8_fillYear_15 : decode cX8_fillYear 15 = .ok (.iload_n 3, 1) := by decide +kernel
theorem dX8_fillYear_16 : decode cX8_fillYear 16 = .ok (.bipush 12, 2) := by decide +kernel
theorem dX8_fillYear_18 : decode cX8_fillYear 18 = .ok (.iload 4, 2) := by decide +kernel
theorem dX8_fillYear_20 : decode cX8_fillYear 20 = .ok (.invokestatic 272, 3) := by decide +kernel
theorem dX8_fillYear_23 : decode cX8_fillYear 23 = .ok (.aload_n 0, 1) := by decide +kernel
theorem dX8_fillYear_24 : decode cX8_fillYear 24 = .ok (.getfield 59, 3) := by decide +kernel
theorem dX8_fillYear_27 : decode cX8_fillYear 27 = .ok (.bipush 10, 2) := by decide +kernel
theorem dX8_fillYear_29 : decode cX8_fillYear 29 = .ok (.iload_n 2, 1) := by decide +kernel
theorem dX8_fillYear_30 : decode cX8_fillYear 30 = .ok (.iconst 1, 1) := by decide +kernel
theorem dX8_fillYear_31 : decode cX8_fillYear 31 = .ok (.iadd, 1) := by decide +kernel
theorem dX8_fillYear_32 : decode cX8_fillYear 32 = .ok (.imul, 1) := by decide +kernel
theorem dX8_fillYear_33 : decode cX8_fillYear 33 = .ok (.aload_n 0, 1) := by decide +kernel
theorem dX8_fillYear_34 : decode cX8_fillYear 34 = .ok (.aload_n 0, 1) := by decide +kernel
theorem dX8_fillYear_35 : decode cX8_fillYear 35 = .ok (.getfield 255, 3) := by decide +kernel
theorem dX8_fillYear_38 : decode cX8_fillYear 38 = .ok (.iload_n 3, 1) := by decide +kernel
theorem dX8_fillYear_39 : decode cX8_fillYear 39 = .ok (.iload 4, 2) := by decide +kernel
theorem dX8_fillYear_41 : decode cX8_fillYear 41 = .ok (.invokevirtual 214, 3) := by decide +kernel
theorem dX8_fillYear_44 : decode cX8_fillYear 44 = .ok (.iadd, 1) := by decide +kernel
theorem dX8_fillYear_45 : decode cX8_fillYear 45 = .ok (.iaload, 1) := by decide +kernel
theorem dX8_fillYear_46 : decode cX8_fillYear 46 = .ok (.iastore, 1) := by decide +kernel
theorem dX8_fillYear_47 : decode cX8_fillYear 47 = .ok (.iinc 4 1, 3) := by decide +kernel
theorem dX8_fillYear_50 : decode cX8_fillYear 50 = .ok (.goto (-47), 3) := by decide +kernel
theorem dX8_fillYear_53 : decode cX8_fillYear 53 = .ok (.bipush 11, 2) := by decide +kernel
theorem dX8_fillYear_55 : decode cX8_fillYear 55 = .ok (.istore 4, 2) := by decide +kernel
theorem dX8_fillYear_57 : decode cX8_fillYear 57 = .ok (.iload 4, 2) := by decide +kernel
theorem dX8_fillYear_59 : decode cX8_fillYear 59 = .ok (.ifCond .lt 244, 3) := by decide +kernel
theorem dX8_fillYear_62 : decode cX8_fillYear 62 = .ok (.iconst 0, 1) := by decide +kernel
theorem dX8_fillYear_63 : decode cX8_fillYear 63 = .ok (.istore 5, 2) := by decide +kernel
theorem dX8_fillYear_65 : decode cX8_fillYear 65 = .ok (.iload 5, 2) := by decide +kernel
theorem dX8_fillYear_67 : decode cX8_fillYear 67 = .ok (.iconst 4, 1) := by decide +kernel
theorem dX8_fillYear_68 : decode cX8_fillYear 68 = .ok (.if_icmp .ge 229, 3) := by decide +kernel
theorem dX8_fillYear_71 : decode cX8_fillYear 71 = .ok (.ldc2_w 276, 3) := by decide +kernel
theorem dX8_fillYear_74 : decode cX8_fillYear 74 = .ok (.aload_n 0, 1) := by decide +kernel
theorem dX8_fillYear_75 : decode cX8_fillYear 75 = .ok (.aload_n 0, 1) := by decide +kernel
theorem dX8_fillYear_76 : decode cX8_fillYear 76 = .ok (.getfield 278, 3) := by decide +kernel
theorem dX8_fillYear_79 : decode cX8_fillYear 79 = .ok (.iload_n 1, 1) := by decide +kernel
theorem dX8_fillYear_80 : decode cX8_fillYear 80 = .ok (.iconst 1, 1) := by decide +kernel
theorem dX8_fillYear_81 : decode cX8_fillYear 81 = .ok (.if_icmp .ne 7, 3) := by decide +kernel
theorem dX8_fillYear_84 : decode cX8_fillYear 84 = .ok (.iconst 1, 1) := by decide +kernel
theorem dX8_fillYear_85 : decode cX8_fillYear 85 = .ok (.goto 4, 3) := by decide +kernel
theorem dX8_fillYear_88 : decode cX8_fillYear 88 = .ok (.iconst 0, 1) := by decide +kernel
theorem dX8_fillYear_89 : decode cX8_fillYear 89 = .ok (.invokevirtual 240, 3) := by decide +kernel
theorem dX8_fillYear_92 : decode cX8_fillYear 92 = .ok (.i2l, 1) := by decide +kernel
theorem dX8_fillYear_93 : decode cX8_fillYear 93 = .ok (.lsub, 1) := by decide +kernel
theorem dX8_fillYear_94 : decode cX8_fillYear 94 = .ok (.aload_n 0, 1) := by decide +kernel
theorem dX8_fillYear_95 : decode cX8_fillYear 95 = .ok (.getfield 62, 3) := by decide +kernel
theorem dX8_fillYear_98 : decode cX8_fillYear 98 = .ok (.iload_n 1, 1) := by decide +kernel
theorem dX8_fillYear_99 : decode cX8_fillYear 99 = .ok (.iload_n 2, 1) := by decide +kernel
theorem dX8_fillYear_100 : decode cX8_fillYear 100 = .ok (.iload_n 3, 1) := by decide +kernel
theorem dX8_fillYear_101 : decode cX8_fillYear 101 = .ok (.iload 4, 2) := by decide +kernel
theorem dX8_fillYear_103 : decode cX8_fillYear 103 = .ok (.iconst 1, 1) := by decide +kernel
theorem dX8_fillYear_104 : decode cX8_fillYear 104 = .ok (.iadd, 1) := by decide +kernel
theorem dX8_fillYear_105 : decode cX8_fillYear 105 = .ok (.iload 5, 2) := by decide +kernel
theorem dX8_fillYear_107 : decode cX8_fillYear 107 = .ok (.invokestatic 272, 3) := by decide +kernel
theorem dX8_fillYear_110 : decode cX8_fillYear 110 = .ok (.iaload, 1) := by decide +kernel
theorem dX8_fillYear_111 : decode cX8_fillYear 111 = .ok (.i2l, 1) := by decide +kernel
theorem dX8_fillYear_112 : decode cX8_fillYear 112 = .ok (.lmul, 1) := by decide +kernel
theorem dX8_fillYear_113 : decode cX8_fillYear 113 = .ok (.lstore 6, 2) := by decide +kernel
theorem dX8_fillYear_115 : decode cX8_fillYear 115 = .ok (.iconst 0, 1) := by decide +kernel
theorem dX8_fillYear_116 : decode cX8_fillYear 116 = .ok (.istore 8, 2) := by decide +kernel
theorem dX8_fillYear_118 : decode cX8_fillYear 118 = .ok (.iload 8, 2) := by decide +kernel
theorem dX8_fillYear_120 : decode cX8_fillYear 120 = .ok (.aload_n 0, 1) := by decide +kernel
theorem dX8_fillYear_121 : decode cX8_fillYear 121 = .ok (.getfield 31, 3) := by decide +kernel
theorem dX8_fillYear_124 : decode cX8_fillYear 124 = .ok (.aload_n 0, 1) := by decide +kernel
theorem dX8_fillYear_125 : decode cX8_fillYear 125 = .ok (.getfield 278, 3) := by decide +kernel
theorem dX8_fillYear_128 : decode cX8_fillYear 128 = .ok (.iaload, 1) := by decide +kernel
theorem dX8_fillYear_129 : decode cX8_fillYear 129 = .ok (.if_icmp .ge 140, 3) := by decide +kernel
theorem dX8_fillYear_132 : decode cX8_fillYear 132 = .ok (.aload_n 0, 1) := by decide +kernel
theorem dX8_fillYear_133 : decode cX8_fillYear 133 = .ok (.getfield 34, 3) := by decide +kernel
theorem dX8_fillYear_136 : decode cX8_fillYear 136 = .ok (.bipush 8, 2) := by decide +kernel
theorem dX8_fillYear_138 : decode cX8_fillYear 138 = .ok (.aload_n 0, 1) := by decide +kernel
theorem dX8_fillYear_139 : decode cX8_fillYear 139 = .ok (.getfield 278, 3) := by decide +kernel
theorem dX8_fillYear_142 : decode cX8_fillYear 142 = .ok (.imul, 1) := by decide +kernel
theorem dX8_fillYear_143 : decode cX8_fillYear 143 = .ok (.iload 8, 2) := by decide +kernel
theorem dX8_fillYear_145 : decode cX8_fillYear 145 = .ok (.iadd, 1) := by decide +kernel
theorem dX8_fillYear_146 : decode cX8_fillYear 146 = .ok (.iaload, 1) := by decide +kernel
theorem dX8_fillYear_147 : decode cX8_fillYear 147 = .ok (.istore 9, 2) := by decide +kernel
theorem dX8_fillYear_149 : decode cX8_fillYear 149 = .ok (.aload_n 0, 1) := by decide +kernel
theorem dX8_fillYear_150 : decode cX8_fillYear 150 = .ok (.iload_n 1, 1) := by decide +kernel
theorem dX8_fillYear_151 : decode cX8_fillYear 151 = .ok (.iload_n 2, 1) := by decide +kernel
theorem dX8_fillYear_152 : decode cX8_fillYear 152 = .ok (.iload_n 3, 1) := by decide +kernel
theorem dX8_fillYear_153 : decode cX8_fillYear 153 = .ok (.iload 4, 2) := by decide +kernel
theorem dX8_fillYear_155 : decode cX8_fillYear 155 = .ok (.iload 5, 2) := by decide +kernel
theorem dX8_fillYear_157 : decode cX8_fillYear 157 = .ok (.iload 9, 2) := by decide +kernel
theorem dX8_fillYear_159 : decode cX8_fillYear 159 = .ok (.invokevirtual 281, 3) := by decide +kernel
theorem dX8_fillYear_162 : decode cX8_fillYear 162 = .ok (.istore 10, 2) := by decide +kernel
theorem dX8_fillYear_164 : decode cX8_fillYear 164 = .ok (.iload 10, 2) := by decide +kernel
theorem dX8_fillYear_166 : decode cX8_fillYear 166 = .ok (.ifCond .eq 40, 3) := by decide +kernel
theorem dX8_fillYear_169 : decode cX8_fillYear 169 = .ok (.ldc2_w 276, 3) := by decide +kernel
theorem dX8_fillYear_172 : decode cX8_fillYear 172 = .ok (.aload_n 0, 1) := by decide +kernel
theorem dX8_fillYear_173 : decode cX8_fillYear 173 = .ok (.iload 9, 2) := by decide +kernel
theorem dX8_fillYear_175 : decode cX8_fillYear 175 = .ok (.invokevirtual 265, 3) := by decide +kernel
theorem dX8_fillYear_178 : decode cX8_fillYear 178 = .ok (.i2l, 1) := by decide +kernel
theorem dX8_fillYear_179 : decode cX8_fillYear 179 = .ok (.lmul, 1) := by decide +kernel
theorem dX8_fillYear_180 : decode cX8_fillYear 180 = .ok (.aload_n 0, 1) := by decide +kernel
theorem dX8_fillYear_181 : decode cX8_fillYear 181 = .ok (.getfield 62, 3) := by decide +kernel
theorem dX8_fillYear_184 : decode cX8_fillYear 184 = .ok (.iload_n 1, 1) := by decide +kernel
theorem dX8_fillYear_185 : decode cX8_fillYear 185 = .ok (.iload_n 2, 1) := by decide +kernel
theorem dX8_fillYear_186 : decode cX8_fillYear 186 = .ok (.iload_n 3, 1) := by decide +kernel
theorem dX8_fillYear_187 : decode cX8_fillYear 187 = .ok (.iload 4, 2) := by decide +kernel
theorem dX8_fillYear_189 : decode cX8_fillYear 189 = .ok (.iconst 1, 1) := by decide +kernel
theorem dX8_fillYear_190 : decode cX8_fillYear 190 = .ok (.iadd, 1) := by decide +kernel
theorem dX8_fillYear_191 : decode cX8_fillYear 191 = .ok (.aload_n 0, 1) := by decide +kernel
theorem dX8_fillYear_192 : decode cX8_fillYear 192 = .ok (.iload 5, 2) := by decide +kernel
theorem dX8_fillYear_194 : decode cX8_fillYear 194 = .ok (.invokevirtual 269, 3) := by decide +kernel
theorem dX8_fillYear_197 : decode cX8_fillYear 197 = .ok (.invokestatic 272, 3) := by decide +kernel
theorem dX8_fillYear_200 : decode cX8_fillYear 200 = .ok (.iaload, 1) := by decide +kernel
theorem dX8_fillYear_201 : decode cX8_fillYear 201 = .ok (.i2l, 1) := by decide +kernel
theorem dX8_fillYear_202 : decode cX8_fillYear 202 = .ok (.ladd, 1) := by decide +kernel
theorem dX8_fillYear_203 : decode cX8_fillYear 203 = .ok (.goto 29, 3) := by decide +kernel
theorem dX8_fillYear_206 : decode cX8_fillYear 206 = .ok (.ldc2_w 276, 3) := by decide +kernel
theorem dX8_fillYear_209 : decode cX8_fillYear 209 = .ok (.iload 9, 2) := by decide +kernel
theorem dX8_fillYear_211 : decode cX8_fillYear 211 = .ok (.i2l, 1) := by decide +kernel
theorem dX8_fillYear_212 : decode cX8_fillYear 212 = .ok (.lmul, 1) := by decide +kernel
theorem dX8_fillYear_213 : decode cX8_fillYear 213 = .ok (.aload_n 0, 1) := by decide +kernel
theorem dX8_fillYear_214 : decode cX8_fillYear 214 = .ok (.getfield 62, 3) := by decide +kernel
theorem dX8_fillYear_217 : decode cX8_fillYear 217 = .ok (.iload_n 1, 1) := by decide +kernel
theorem dX8_fillYear_218 : decode cX8_fillYear 218 = .ok (.iload_n 2, 1) := by decide +kernel
theorem dX8_fillYear_219 : decode cX8_fillYear 219 = .ok (.iload_n 3, 1) := by decide +kernel
theorem dX8_fillYear_220 : decode cX8_fillYear 220 = .ok (.iload 4, 2) := by decide +kernel
theorem dX8_fillYear_222 : decode cX8_fillYear 222 = .ok (.iconst 1, 1) := by decide +kernel
theorem dX8_fillYear_223 : decode cX8_fillYear 223 = .ok (.iadd, 1) := by decide +kernel
theorem dX8_fillYear_224 : decode cX8_fillYear 224 = .ok (.iload 5, 2) := by decide +kernel
theorem dX8_fillYear_226 : decode cX8_fillYear 226 = .ok (.invokestatic 272, 3) := by decide +kernel
theorem dX8_fillYear_229 : decode cX8_fillYear 229 = .ok (.iaload, 1) := by decide +kernel
theorem dX8_fillYear_230 : decode cX8_fillYear 230 = .ok (.i2l, 1) := by decide +kernel
theorem dX8_fillYear_231 : decode cX8_fillYear 231 = .ok (.ladd, 1) := by decide +kernel
theorem dX8_fillYear_232 : decode cX8_fillYear 232 = .ok (.lstore 11, 2) := by decide +kernel
theorem dX8_fillYear_234 : decode cX8_fillYear 234 = .ok (.lload 6, 2) := by decide +kernel
theorem dX8_fillYear_236 : decode cX8_fillYear 236 = .ok (.aload_n 0, 1) := by decide +kernel
theorem dX8_fillYear_237 : decode cX8_fillYear 237 = .ok (.aload_n 0, 1) := by decide +kernel
theorem dX8_fillYear_238 : decode cX8_fillYear 238 = .ok (.getfield 278, 3) := by decide +kernel
theorem dX8_fillYear_241 : decode cX8_fillYear 241 = .ok (.iload 8, 2) := by decide +kernel
theorem dX8_fillYear_243 : decode cX8_fillYear 243 = .ok (.iload_n 1, 1) := by decide +kernel
theorem dX8_fillYear_244 : decode cX8_fillYear 244 = .ok (.iconst 1, 1) := by decide +kernel
theorem dX8_fillYear_245 : decode cX8_fillYear 245 = .ok (.if_icmp .ne 7, 3) := by decide +kernel
theorem dX8_fillYear_248 : decode cX8_fillYear 248 = .ok (.iconst 1, 1) := by decide +kernel
theorem dX8_fillYear_249 : decode cX8_fillYear 249 = .ok (.goto 4, 3) := by decide +kernel
theorem dX8_fillYear_252 : decode cX8_fillYear 252 = .ok (.iconst 0, 1) := by decide +kernel
theorem dX8_fillYear_253 : decode cX8_fillYear 253 = .ok (.invokevirtual 231, 3) := by decide +kernel
theorem dX8_fillYear_256 : decode cX8_fillYear 256 = .ok (.i2l, 1) := by decide +kernel
theorem dX8_fillYear_257 : decode cX8_fillYear 257 = .ok (.lload 11, 2) := by decide +kernel
theorem dX8_fillYear_259 : decode cX8_fillYear 259 = .ok (.lmul, 1) := by decide +kernel
theorem dX8_fillYear_260 : decode cX8_fillYear 260 = .ok (.ladd, 1) := by decide +kernel
theorem dX8_fillYear_261 : decode cX8_fillYear 261 = .ok (.lstore 6, 2) := by decide +kernel
theorem dX8_fillYear_263 : decode cX8_fillYear 263 = .ok (.iinc 8 1, 3) := by decide +kernel
theorem dX8_fillYear_266 : decode cX8_fillYear 266 = .ok (.goto (-148), 3) := by decide +kernel
theorem dX8_fillYear_269 : decode cX8_fillYear 269 = .ok (.aload_n 0, 1) := by decide +kernel
theorem dX8_fillYear_270 : decode cX8_fillYear 270 = .ok (.getfield 62, 3) := by decide +kernel
theorem dX8_fillYear_273 : decode cX8_fillYear 273 = .ok (.iload_n 1, 1) := by decide +kernel
theorem dX8_fillYear_274 : decode cX8_fillYear 274 = .ok (.iload_n 2, 1) := by decide +kernel
theorem dX8_fillYear_275 : decode cX8_fillYear 275 = .ok (.iload_n 3, 1) := by decide +kernel
theorem dX8_fillYear_276 : decode cX8_fillYear 276 = .ok (.iload 4, 2) := by decide +kernel
theorem dX8_fillYear_278 : decode cX8_fillYear 278 = .ok (.iload 5, 2) := by decide +kernel
theorem dX8_fillYear_280 : decode cX8_fillYear 280 = .ok (.invokestatic 272, 3) := by decide +kernel
theorem dX8_fillYear_283 : decode cX8_fillYear 283 = .ok (.lload 6, 2) := by decide +kernel
theorem dX8_fillYear_285 : decode cX8_fillYear 285 = .ok (.ldc2_w 276, 3) := by decide +kernel
theorem dX8_fillYear_288 : decode cX8_fillYear 288 = .ok (.ldiv, 1) := by decide +kernel
theorem dX8_fillYear_289 : decode cX8_fillYear 289 = .ok (.l2i, 1) := by decide +kernel
theorem dX8_fillYear_290 : decode cX8_fillYear 290 = .ok (.iastore, 1) := by decide +kernel
theorem dX8_fillYear_291 : decode cX8_fillYear 291 = .ok (.iinc 5 1, 3) := by decide +kernel
theorem dX8_fillYear_294 : decode cX8_fillYear 294 = .ok (.goto (-229), 3) := by decide +kernel
theorem dX8_fillYear_297 : decode cX8_fillYear 297 = .ok (.iinc 4 (-1), 3) := by decide +kernel
theorem dX8_fillYear_300 : decode cX8_fillYear 300 = .ok (.goto (-243), 3) := by decide +kernel
theorem dX8_fillYear_303 : decode cX8_fillYear 303 = .ok (.return_, 1) := by decide +kernel
theorem dX8_canPain_0 : decode cX8_canPain 0 = .ok (.aload_n 0, 1) := by decide +kernel
theorem dX8_canPain_1 : decode cX8_canPain 1 = .ok (.getfield 258, 3) := by decide +kernel
theorem dX8_canPain_4 : decode cX8_canPain 4 = .ok (.ifCond .ge 19, 3) := by decide +kernel
theorem dX8_canPain_7 : decode cX8_canPain 7 = .ok (.aload_n 0, 1) := by decide +kernel
theorem dX8_canPain_8 : decode cX8_canPain 8 = .ok (.getfield 40, 3) := by decide +kernel
theorem dX8_canPain_11 : decode cX8_canPain 11 = .ok (.aload_n 0, 1) := by decide +kernel
theorem dX8_canPain_12 : decode cX8_canPain 12 = .ok (.getfield 278, 3) := by decide +kernel
theorem dX8_canPain_15 : decode cX8_canPain 15 = .ok (.iaload, 1) := by decide +kernel
theorem dX8_canPain_16 : decode cX8_canPain 16 = .ok (.ifCond .lt 7, 3) := by decide +kernel
theorem dX8_canPain_19 : decode cX8_canPain 19 = .ok (.iconst 1, 1) := by decide +kernel
theorem dX8_canPain_20 : decode cX8_canPain 20 = .ok (.goto 4, 3) := by decide +kernel
theorem dX8_canPain_23 : decode cX8_canPain 23 = .ok (.iconst 0, 1) := by decide +kernel
theorem dX8_canPain_24 : decode cX8_canPain 24 = .ok (.ireturn, 1) := by decide +kernel
theorem dX8_painsAt_0 : decode cX8_painsAt 0 = .ok (.sipush 1000, 3) := by decide +kernel
theorem dX8_painsAt_3 : decode cX8_painsAt 3 = .ok (.aload_n 0, 1) := by decide +kernel
theorem dX8_painsAt_4 : decode cX8_painsAt 4 = .ok (.getfield 13, 3) := by decide +kernel
theorem dX8_painsAt_7 : decode cX8_painsAt 7 = .ok (.bipush 10, 2) := by decide +kernel
theorem dX8_painsAt_9 : decode cX8_painsAt 9 = .ok (.aload_n 0, 1) := by decide +kernel
theorem dX8_painsAt_10 : decode cX8_painsAt 10 = .ok (.getfield 255, 3) := by decide +kernel
theorem dX8_painsAt_13 : decode cX8_painsAt 13 = .ok (.imul, 1) := by decide +kernel
theorem dX8_painsAt_14 : decode cX8_painsAt 14 = .ok (.iload_n 2, 1) := by decide +kernel
theorem dX8_painsAt_15 : decode cX8_painsAt 15 = .ok (.iadd, 1) := by decide +kernel
theorem dX8_painsAt_16 : decode cX8_painsAt 16 = .ok (.iaload, 1) := by decide +kernel
theorem dX8_painsAt_17 : decode cX8_painsAt 17 = .ok (.imul, 1) := by decide +kernel
theorem dX8_painsAt_18 : decode cX8_painsAt 18 = .ok (.sipush 1000, 3) := by decide +kernel
theorem dX8_painsAt_21 : decode cX8_painsAt 21 = .ok (.aload_n 0, 1) := by decide +kernel
theorem dX8_painsAt_22 : decode cX8_painsAt 22 = .ok (.getfield 40, 3) := by decide +kernel
theorem dX8_painsAt_25 : decode cX8_painsAt 25 = .ok (.aload_n 0, 1) := by decide +kernel
theorem dX8_painsAt_26 : decode cX8_painsAt 26 = .ok (.getfield 278, 3) := by decide +kernel
theorem dX8_painsAt_29 : decode cX8_painsAt 29 = .ok (.iaload, 1) := by decide +kernel
theorem dX8_painsAt_30 : decode cX8_painsAt 30 = .ok (.imul, 1) := by decide +kernel
theorem dX8_painsAt_31 : decode cX8_painsAt 31 = .ok (.iadd, 1) := by decide +kernel
theorem dX8_painsAt_32 : decode cX8_painsAt 32 = .ok (.aload_n 0, 1) := by decide +kernel
theorem dX8_painsAt_33 : decode cX8_painsAt 33 = .ok (.getfield 62, 3) := by decide +kernel
theorem dX8_painsAt_36 : decode cX8_painsAt 36 = .ok (.iconst 1, 1) := by decide +kernel
theorem dX8_painsAt_37 : decode cX8_painsAt 37 = .ok (.iload_n 1, 1) := by decide +kernel
theorem dX8_painsAt_38 : decode cX8_painsAt 38 = .ok (.iload_n 2, 1) := by decide +kernel
theorem dX8_painsAt_39 : decode cX8_painsAt 39 = .ok (.iconst 0, 1) := by decide +kernel
theorem dX8_painsAt_40 : decode cX8_painsAt 40 = .ok (.iconst 0, 1) := by decide +kernel
theorem dX8_painsAt_41 : decode cX8_painsAt 41 = .ok (.invokestatic 272, 3) := by decide +kernel
theorem dX8_painsAt_44 : decode cX8_painsAt 44 = .ok (.iaload, 1) := by decide +kernel
theorem dX8_painsAt_45 : decode cX8_painsAt 45 = .ok (.iadd, 1) := by decide +kernel
theorem dX8_painsAt_46 : decode cX8_painsAt 46 = .ok (.ireturn, 1) := by decide +kernel
theorem dX8_plainAt_0 : decode cX8_plainAt 0 = .ok (.sipush 1000, 3) := by decide +kernel
theorem dX8_plainAt_3 : decode cX8_plainAt 3 = .ok (.aload_n 0, 1) := by decide +kernel
theorem dX8_plainAt_4 : decode cX8_plainAt 4 = .ok (.getfield 13, 3) := by decide +kernel
theorem dX8_plainAt_7 : decode cX8_plainAt 7 = .ok (.bipush 10, 2) := by decide +kernel
theorem dX8_plainAt_9 : decode cX8_plainAt 9 = .ok (.aload_n 0, 1) := by decide +kernel
theorem dX8_plainAt_10 : decode cX8_plainAt 10 = .ok (.getfield 255, 3) := by decide +kernel
theorem dX8_plainAt_13 : decode cX8_plainAt 13 = .ok (.imul, 1) := by decide +kernel
theorem dX8_plainAt_14 : decode cX8_plainAt 14 = .ok (.iload_n 2, 1) := by decide +kernel
theorem dX8_plainAt_15 : decode cX8_plainAt 15 = .ok (.iadd, 1) := by decide +kernel
theorem dX8_plainAt_16 : decode cX8_plainAt 16 = .ok (.iaload, 1) := by decide +kernel
theorem dX8_plainAt_17 : decode cX8_plainAt 17 = .ok (.imul, 1) := by decide +kernel
theorem dX8_plainAt_18 : decode cX8_plainAt 18 = .ok (.aload_n 0, 1) := by decide +kernel
theorem dX8_plainAt_19 : decode cX8_plainAt 19 = .ok (.getfield 62, 3) := by decide +kernel
theorem dX8_plainAt_22 : decode cX8_plainAt 22 = .ok (.iconst 0, 1) := by decide +kernel
theorem dX8_plainAt_23 : decode cX8_plainAt 23 = .ok (.iload_n 1, 1) := by decide +kernel
theorem dX8_plainAt_24 : decode cX8_plainAt 24 = .ok (.iload_n 2, 1) := by decide +kernel
theorem dX8_plainAt_25 : decode cX8_plainAt 25 = .ok (.iconst 0, 1) := by decide +kernel
theorem dX8_plainAt_26 : decode cX8_plainAt 26 = .ok (.iconst 0, 1) := by decide +kernel
theorem dX8_plainAt_27 : decode cX8_plainAt 27 = .ok (.invokestatic 272, 3) := by decide +kernel
theorem dX8_plainAt_30 : decode cX8_plainAt 30 = .ok (.iaload, 1) := by decide +kernel
theorem dX8_plainAt_31 : decode cX8_plainAt 31 = .ok (.iadd, 1) := by decide +kernel
theorem dX8_plainAt_32 : decode cX8_plainAt 32 = .ok (.ireturn, 1) := by decide +kernel
theorem dX8_isPained_0 : decode cX8_isPained 0 = .ok (.aload_n 0, 1) := by decide +kernel
theorem dX8_isPained_1 : decode cX8_isPained 1 = .ok (.invokevirtual 285, 3) := by decide +kernel
theorem dX8_isPained_4 : decode cX8_isPained 4 = .ok (.ifCond .eq 22, 3) := by decide +kernel
theorem dX8_isPained_7 : decode cX8_isPained 7 = .ok (.aload_n 0, 1) := by decide +kernel
theorem dX8_isPained_8 : decode cX8_isPained 8 = .ok (.iload_n 1, 1) := by decide +kernel
theorem dX8_isPained_9 : decode cX8_isPained 9 = .ok (.iload_n 2, 1) := by decide +kernel
theorem dX8_isPained_10 : decode cX8_isPained 10 = .ok (.invokevirtual 289, 3) := by decide +kernel
theorem dX8_isPained_13 : decode cX8_isPained 13 = .ok (.aload_n 0, 1) := by decide +kernel
theorem dX8_isPained_14 : decode cX8_isPained 14 = .ok (.iload_n 1, 1) := by decide +kernel
theorem dX8_isPained_15 : decode cX8_isPained 15 = .ok (.iload_n 2, 1) := by decide +kernel
theorem dX8_isPained_16 : decode cX8_isPained 16 = .ok (.invokevirtual 292, 3) := by decide +kernel
theorem dX8_isPained_19 : decode cX8_isPained 19 = .ok (.if_icmp .ge 7, 3) := by decide +kernel
theorem dX8_isPained_22 : decode cX8_isPained 22 = .ok (.iconst 1, 1) := by decide +kernel
theorem dX8_isPained_23 : decode cX8_isPained 23 = .ok (.goto 4, 3) := by decide +kernel
theorem dX8_isPained_26 : decode cX8_isPained 26 = .ok (.iconst 0, 1) := by decide +kernel
theorem dX8_isPained_27 : decode cX8_isPained 27 = .ok (.ireturn, 1) := by decide +kernel
theorem dX8_work_0 : decode cX8_work 0 = .ok (.aload_n 0, 1) := by decide +kernel
theorem dX8_work_1 : decode cX8_work 1 = .ok (.getfield 205, 3) := by decide +kernel
theorem dX8_work_4 : decode cX8_work 4 = .ok (.ifCond .eq 37, 3) := by decide +kernel
theorem dX8_work_7 : decode cX8_work 7 = .ok (.iload_n 1, 1) := by decide +kernel
theorem dX8_work_8 : decode cX8_work 8 = .ok (.aload_n 0, 1) := by decide +kernel
theorem dX8_work_9 : decode cX8_work 9 = .ok (.getfield 278, 3) := by decide +kernel
theorem dX8_work_12 : decode cX8_work 12 = .ok (.if_icmp .ne 29, 3) := by decide +kernel
theorem dX8_work_15 : decode cX8_work 15 = .ok (.iload_n 2, 1) := by decide +kernel
theorem dX8_work_16 : decode cX8_work 16 = .ok (.aload_n 0, 1) := by decide +kernel
theorem dX8_work_17 : decode cX8_work 17 = .ok (.getfield 255, 3) := by decide +kernel
theorem dX8_work_20 : decode cX8_work 20 = .ok (.if_icmp .ne 21, 3) := by decide +kernel
theorem dX8_work_23 : decode cX8_work 23 = .ok (.iload_n 3, 1) := by decide +kernel
theorem dX8_work_24 : decode cX8_work 24 = .ok (.aload_n 0, 1) := by decide +kernel
theorem dX8_work_25 : decode cX8_work 25 = .ok (.getfield 258, 3) := by decide +kernel
theorem dX8_work_28 : decode cX8_work 28 = .ok (.if_icmp .ne 13, 3) := by decide +kernel
theorem dX8_work_31 : decode cX8_work 31 = .ok (.iload 4, 2) := by decide +kernel
theorem dX8_work_33 : decode cX8_work 33 = .ok (.aload_n 0, 1) := by decide +kernel
theorem dX8_work_34 : decode cX8_work 34 = .ok (.getfield 295, 3) := by decide +kernel
theorem dX8_work_37 : decode cX8_work 37 = .ok (.if_icmp .ne 4, 3) := by decide +kernel
theorem dX8_work_40 : decode cX8_work 40 = .ok (.return_, 1) := by decide +kernel
theorem dX8_work_41 : decode cX8_work 41 = .ok (.aload_n 0, 1) := by decide +kernel
theorem dX8_work_42 : decode cX8_work 42 = .ok (.iload_n 2, 1) := by decide +kernel
theorem dX8_work_43 : decode cX8_work 43 = .ok (.iconst 2, 1) := by decide +kernel
theorem dX8_work_44 : decode cX8_work 44 = .ok (.if_icmp .ge 7, 3) := by decide +kernel
theorem dX8_work_47 : decode cX8_work 47 = .ok (.iconst 1, 1) := by decide +kernel
theorem dX8_work_48 : decode cX8_work 48 = .ok (.goto 4, 3) := by decide +kernel
theorem dX8_work_51 : decode cX8_work 51 = .ok (.iconst 0, 1) := by decide +kernel
theorem dX8_work_52 : decode cX8_work 52 = .ok (.putfield 205, 3) := by decide +kernel
theorem dX8_work_55 : decode cX8_work 55 = .ok (.aload_n 0, 1) := by decide +kernel
theorem dX8_work_56 : decode cX8_work 56 = .ok (.iload 4, 2) := by decide +kernel
theorem dX8_work_58 : decode cX8_work 58 = .ok (.putfield 295, 3) := by decide +kernel
theorem dX8_work_61 : decode cX8_work 61 = .ok (.aload_n 0, 1) := by decide +kernel
theorem dX8_work_62 : decode cX8_work 62 = .ok (.iload_n 1, 1) := by decide +kernel
theorem dX8_work_63 : decode cX8_work 63 = .ok (.putfield 278, 3) := by decide +kernel
theorem dX8_work_66 : decode cX8_work 66 = .ok (.aload_n 0, 1) := by decide +kernel
theorem dX8_work_67 : decode cX8_work 67 = .ok (.iload_n 2, 1) := by decide +kernel
theorem dX8_work_68 : decode cX8_work 68 = .ok (.putfield 255, 3) := by decide +kernel
theorem dX8_work_71 : decode cX8_work 71 = .ok (.aload_n 0, 1) := by decide +kernel
theorem dX8_work_72 : decode cX8_work 72 = .ok (.iload_n 3, 1) := by decide +kernel
theorem dX8_work_73 : decode cX8_work 73 = .ok (.putfield 258, 3) := by decide +kernel
theorem dX8_work_76 : decode cX8_work 76 = .ok (.iconst 0, 1) := by decide +kernel
theorem dX8_work_77 : decode cX8_work 77 = .ok (.istore 5, 2) := by decide +kernel
theorem dX8_work_79 : decode cX8_work 79 = .ok (.iload 5, 2) := by decide +kernel
theorem dX8_work_81 : decode cX8_work 81 = .ok (.aload_n 0, 1) := by decide +kernel
theorem dX8_work_82 : decode cX8_work 82 = .ok (.getfield 7, 3) := by decide +kernel
