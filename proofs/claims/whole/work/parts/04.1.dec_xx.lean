theorem dX7_init_0 : decode cX7_init 0 = .ok (.aload_n 0, 1) := by decide +kernel
theorem dX7_init_1 : decode cX7_init 1 = .ok (.invokespecial 1, 3) := by decide +kernel
theorem dX7_init_4 : decode cX7_init 4 = .ok (.aload_n 0, 1) := by decide +kernel
theorem dX7_init_5 : decode cX7_init 5 = .ok (.new 7, 3) := by decide +kernel
theorem dX7_init_8 : decode cX7_init 8 = .ok (.dup, 1) := by decide +kernel
theorem dX7_init_9 : decode cX7_init 9 = .ok (.invokespecial 9, 3) := by decide +kernel
theorem dX7_init_12 : decode cX7_init 12 = .ok (.putfield 10, 3) := by decide +kernel
theorem dX7_init_15 : decode cX7_init 15 = .ok (.aload_n 0, 1) := by decide +kernel
theorem dX7_init_16 : decode cX7_init 16 = .ok (.iconst 2, 1) := by decide +kernel
theorem dX7_init_17 : decode cX7_init 17 = .ok (.anewarray 16, 3) := by decide +kernel
theorem dX7_init_20 : decode cX7_init 20 = .ok (.putfield 18, 3) := by decide +kernel
theorem dX7_init_23 : decode cX7_init 23 = .ok (.aload_n 0, 1) := by decide +kernel
theorem dX7_init_24 : decode cX7_init 24 = .ok (.iconst 4, 1) := by decide +kernel
theorem dX7_init_25 : decode cX7_init 25 = .ok (.anewarray 22, 3) := by decide +kernel
theorem dX7_init_28 : decode cX7_init 28 = .ok (.putfield 24, 3) := by decide +kernel
theorem dX7_init_31 : decode cX7_init 31 = .ok (.aload_n 0, 1) := by decide +kernel
theorem dX7_init_32 : decode cX7_init 32 = .ok (.iconst 4, 1) := by decide +kernel
theorem dX7_init_33 : decode cX7_init 33 = .ok (.anewarray 28, 3) := by decide +kernel
theorem dX7_init_36 : decode cX7_init 36 = .ok (.putfield 30, 3) := by decide +kernel
theorem dX7_init_39 : decode cX7_init 39 = .ok (.aload_n 0, 1) := by decide +kernel
theorem dX7_init_40 : decode cX7_init 40 = .ok (.bipush 8, 2) := by decide +kernel
theorem dX7_init_42 : decode cX7_init 42 = .ok (.anewarray 34, 3) := by decide +kernel
theorem dX7_init_45 : decode cX7_init 45 = .ok (.putfield 36, 3) := by decide +kernel
theorem dX7_init_48 : decode cX7_init 48 = .ok (.aload_n 0, 1) := by decide +kernel
theorem dX7_init_49 : decode cX7_init 49 = .ok (.new 16, 3) := by decide +kernel
theorem dX7_init_52 : decode cX7_init 52 = .ok (.dup, 1) := by decide +kernel
theorem dX7_init_53 : decode cX7_init 53 = .ok (.invokespecial 40, 3) := by decide +kernel
theorem dX7_init_56 : decode cX7_init 56 = .ok (.putfield 41, 3) := by decide +kernel
theorem dX7_init_59 : decode cX7_init 59 = .ok (.aload_n 0, 1) := by decide +kernel
theorem dX7_init_60 : decode cX7_init 60 = .ok (.new 45, 3) := by decide +kernel
theorem dX7_init_63 : decode cX7_init 63 = .ok (.dup, 1) := by decide +kernel
theorem dX7_init_64 : decode cX7_init 64 = .ok (.invokespecial 47, 3) := by decide +kernel
theorem dX7_init_67 : decode cX7_init 67 = .ok (.putfield 48, 3) := by decide +kernel
theorem dX7_init_70 : decode cX7_init 70 = .ok (.aload_n 0, 1) := by decide +kernel
theorem dX7_init_71 : decode cX7_init 71 = .ok (.iconst 4, 1) := by decide +kernel
theorem dX7_init_72 : decode cX7_init 72 = .ok (.newarray .long, 2) := by decide +kernel
theorem dX7_init_74 : decode cX7_init 74 = .ok (.putfield 52, 3) := by decide +kernel
theorem dX7_init_77 : decode cX7_init 77 = .ok (.aload_n 0, 1) := by decide +kernel
theorem dX7_init_78 : decode cX7_init 78 = .ok (.new 56, 3) := by decide +kernel
theorem dX7_init_81 : decode cX7_init 81 = .ok (.dup, 1) := by decide +kernel
theorem dX7_init_82 : decode cX7_init 82 = .ok (.invokespecial 58, 3) := by decide +kernel
theorem dX7_init_85 : decode cX7_init 85 = .ok (.putfield 59, 3) := by decide +kernel
theorem dX7_init_88 : decode cX7_init 88 = .ok (.aload_n 0, 1) := by decide +kernel
theorem dX7_init_89 : decode cX7_init 89 = .ok (.iconst 2, 1) := by decide +kernel
theorem dX7_init_90 : decode cX7_init 90 = .ok (.anewarray 56, 3) := by decide +kernel
theorem dX7_init_93 : decode cX7_init 93 = .ok (.putfield 63, 3) := by decide +kernel
theorem dX7_init_96 : decode cX7_init 96 = .ok (.aload_n 0, 1) := by decide +kernel
theorem dX7_init_97 : decode cX7_init 97 = .ok (.iconst 0, 1) := by decide +kernel
theorem dX7_init_98 : decode cX7_init 98 = .ok (.putfield 67, 3) := by decide +kernel
theorem dX7_init_101 : decode cX7_init 101 = .ok (.aload_n 0, 1) := by decide +kernel
theorem dX7_init_102 : decode cX7_init 102 = .ok (.iconst 0, 1) := by decide +kernel
theorem dX7_init_103 : decode cX7_init 103 = .ok (.putfield 71, 3) := by decide +kernel
theorem dX7_init_106 : decode cX7_init 106 = .ok (.aload_n 0, 1) := by decide +kernel
theorem dX7_init_107 : decode cX7_init 107 = .ok (.iconst (-1), 1) := by decide +kernel
theorem dX7_init_108 : decode cX7_init 108 = .ok (.putfield 74, 3) := by decide +kernel
theorem dX7_init_111 : decode cX7_init 111 = .ok (.iconst 0, 1) := by decide +kernel
theorem dX7_init_112 : decode cX7_init 112 = .ok (.istore_n 1, 1) := by decide +kernel
theorem dX7_init_113 : decode cX7_init 113 = .ok (.iload_n 1, 1) := by decide +kernel
theorem dX7_init_114 : decode cX7_init 114 = .ok (.iconst 2, 1) := by decide +kernel
theorem dX7_init_115 : decode cX7_init 115 = .ok (.if_icmp .ge 22, 3) := by decide +kernel
theorem dX7_init_118 : decode cX7_init 118 = .ok (.aload_n 0, 1) := by decide +kernel
theorem dX7_init_119 : decode cX7_init 119 = .ok (.getfield 18, 3) := by decide +kernel
theorem dX7_init_122 : decode cX7_init 122 = .ok (.iload_n 1, 1) := by decide +kernel
theorem dX7_init_123 : decode cX7_init 123 = .ok (.new 16, 3) := by decide +kernel
theorem dX7_init_126 : decode cX7_init 126 = .ok (.dup, 1) := by decide +kernel
theorem dX7_init_127 : decode cX7_init 127 = .ok (.invokespecial 40, 3) := by decide +kernel
theorem dX7_init_130 : decode cX7_init 130 = .ok (.aastore, 1) := by decide +kernel
theorem dX7_init_131 : decode cX7_init 131 = .ok (.iinc 1 1, 3) := by decide +kernel
theorem dX7_init_134 : decode cX7_init 134 = .ok (.goto (-21), 3) := by decide +kernel
theorem dX7_init_137 : decode cX7_init 137 = .ok (.iconst 0, 1) := by decide +kernel
theorem dX7_init_138 : decode cX7_init 138 = .ok (.istore_n 1, 1) := by decide +kernel
theorem dX7_init_139 : decode cX7_init 139 = .ok (.iload_n 1, 1) := by decide +kernel
theorem dX7_init_140 : decode cX7_init 140 = .ok (.iconst 4, 1) := by decide +kernel
theorem dX7_init_141 : decode cX7_init 141 = .ok (.if_icmp .ge 22, 3) := by decide +kernel
theorem dX7_init_144 : decode cX7_init 144 = .ok (.aload_n 0, 1) := by decide +kernel
theorem dX7_init_145 : decode cX7_init 145 = .ok (.getfield 24, 3) := by decide +kernel
theorem dX7_init_148 : decode cX7_init 148 = .ok (.iload_n 1, 1) := by decide +kernel
theorem dX7_init_149 : decode cX7_init 149 = .ok (.new 22, 3) := by decide +kernel
theorem dX7_init_152 : decode cX7_init 152 = .ok (.dup, 1) := by decide +kernel
theorem dX7_init_153 : decode cX7_init 153 = .ok (.invokespecial 77, 3) := by decide +kernel
theorem dX7_init_156 : decode cX7_init 156 = .ok (.aastore, 1) := by decide +kernel
theorem dX7_init_157 : decode cX7_init 157 = .ok (.iinc 1 1, 3) := by decide +kernel
theorem dX7_init_160 : decode cX7_init 160 = .ok (.goto (-21), 3) := by decide +kernel
theorem dX7_init_163 : decode cX7_init 163 = .ok (.iconst 0, 1) := by decide +kernel
theorem dX7_init_164 : decode cX7_init 164 = .ok (.istore_n 1, 1) := by decide +kernel
theorem dX7_init_165 : decode cX7_init 165 = .ok (.iload_n 1, 1) := by decide +kernel
theorem dX7_init_166 : decode cX7_init 166 = .ok (.bipush 8, 2) := by decide +kernel
theorem dX7_init_168 : decode cX7_init 168 = .ok (.if_icmp .ge 38, 3) := by decide +kernel
theorem dX7_init_171 : decode cX7_init 171 = .ok (.aload_n 0, 1) := by decide +kernel
theorem dX7_init_172 : decode cX7_init 172 = .ok (.getfield 36, 3) := by decide +kernel
theorem dX7_init_175 : decode cX7_init 175 = .ok (.iload_n 1, 1) := by decide +kernel
theorem dX7_init_176 : decode cX7_init 176 = .ok (.new 34, 3) := by decide +kernel
theorem dX7_init_179 : decode cX7_init 179 = .ok (.dup, 1) := by decide +kernel
theorem dX7_init_180 : decode cX7_init 180 = .ok (.aload_n 0, 1) := by decide +kernel
theorem dX7_init_181 : decode cX7_init 181 = .ok (.getfield 24, 3) := by decide +kernel
theorem dX7_init_184 : decode cX7_init 184 = .ok (.iload_n 1, 1) := by decide +kernel
theorem dX7_init_185 : decode cX7_init 185 = .ok (.iconst 2, 1) := by decide +kernel
theorem dX7_init_186 : decode cX7_init 186 = .ok (.idiv, 1) := by decide +kernel
theorem dX7_init_187 : decode cX7_init 187 = .ok (.aaload, 1) := by decide +kernel
theorem dX7_init_188 : decode cX7_init 188 = .ok (.aload_n 0, 1) := by decide +kernel
theorem dX7_init_189 : decode cX7_init 189 = .ok (.getfield 18, 3) := by decide +kernel
theorem dX7_init_192 : decode cX7_init 192 = .ok (.iload_n 1, 1) := by decide +kernel
theorem dX7_init_193 : decode cX7_init 193 = .ok (.iconst 2, 1) := by decide +kernel
theorem dX7_init_194 : decode cX7_init 194 = .ok (.irem, 1) := by decide +kernel
theorem dX7_init_195 : decode cX7_init 195 = .ok (.aaload, 1) := by decide +kernel
theorem dX7_init_196 : decode cX7_init 196 = .ok (.invokespecial 78, 3) := by decide +kernel
theorem dX7_init_199 : decode cX7_init 199 = .ok (.aastore, 1) := by decide +kernel
theorem dX7_init_200 : decode cX7_init 200 = .ok (.iinc 1 1, 3) := by decide +kernel
theorem dX7_init_203 : decode cX7_init 203 = .ok (.goto (-38), 3) := by decide +kernel
theorem dX7_init_206 : decode cX7_init 206 = .ok (.aload_n 0, 1) := by decide +kernel
theorem dX7_init_207 : decode cX7_init 207 = .ok (.new 34, 3) := by decide +kernel
theorem dX7_init_210 : decode cX7_init 210 = .ok (.dup, 1) := by decide +kernel
theorem dX7_init_211 : decode cX7_init 211 = .ok (.aload_n 0, 1) := by decide +kernel
theorem dX7_init_212 : decode cX7_init 212 = .ok (.getfield 24, 3) := by decide +kernel
theorem dX7_init_215 : decode cX7_init 215 = .ok (.iconst 0, 1) := by decide +kernel
theorem dX7_init_216 : decode cX7_init 216 = .ok (.aaload, 1) := by decide +kernel
theorem dX7_init_217 : decode cX7_init 217 = .ok (.aload_n 0, 1) := by decide +kernel
theorem dX7_init_218 : decode cX7_init 218 = .ok (.getfield 41, 3) := by decide +kernel
theorem dX7_init_221 : decode cX7_init 221 = .ok (.invokespecial 78, 3) := by decide +kernel
theorem dX7_init_224 : decode cX7_init 224 = .ok (.putfield 81, 3) := by decide +kernel
theorem dX7_init_227 : decode cX7_init 227 = .ok (.iconst 0, 1) := by decide +kernel
theorem dX7_init_228 : decode cX7_init 228 = .ok (.istore_n 1, 1) := by decide +kernel
theorem dX7_init_229 : decode cX7_init 229 = .ok (.iload_n 1, 1) := by decide +kernel
theorem dX7_init_230 : decode cX7_init 230 = .ok (.iconst 4, 1) := by decide +kernel
theorem dX7_init_231 : decode cX7_init 231 = .ok (.if_icmp .ge 22, 3) := by decide +kernel
theorem dX7_init_234 : decode cX7_init 234 = .ok (.aload_n 0, 1) := by decide +kernel
theorem dX7_init_235 : decode cX7_init 235 = .ok (.getfield 30, 3) := by decide +kernel
theorem dX7_init_238 : decode cX7_init 238 = .ok (.iload_n 1, 1) := by decide +kernel
theorem dX7_init_239 : decode cX7_init 239 = .ok (.new 28, 3) := by decide +kernel
theorem dX7_init_242 : decode cX7_init 242 = .ok (.dup, 1) := by decide +kernel
theorem dX7_init_243 : decode cX7_init 243 = .ok (.invokespecial 85, 3) := by decide +kernel
theorem dX7_init_246 : decode cX7_init 246 = .ok (.aastore, 1) := by decide +kernel
theorem dX7_init_247 : decode cX7_init 247 = .ok (.iinc 1 1, 3) := by decide +kernel
theorem dX7_init_250 : decode cX7_init 250 = .ok (.goto (-21), 3) := by decide +kernel
theorem dX7_init_253 : decode cX7_init 253 = .ok (.iconst 0, 1) := by decide +kernel
theorem dX7_init_254 : decode cX7_init 254 = .ok (.istore_n 1, 1) := by decide +kernel
theorem dX7_init_255 : decode cX7_init 255 = .ok (.iload_n 1, 1) := by decide +kernel
theorem dX7_init_256 : decode cX7_init 256 = .ok (.iconst 2, 1) := by decide +kernel
theorem dX7_init_257 : decode cX7_init 257 = .ok (.if_icmp .ge 22, 3) := by decide +kernel
theorem dX7_init_260 : decode cX7_init 260 = .ok (.aload_n 0, 1) := by decide +kernel
theorem dX7_init_261 : decode cX7_init 261 = .ok (.getfield 63, 3) := by decide +kernel
theorem dX7_init_264 : decode cX7_init 264 = .ok (.iload_n 1, 1) := by decide +kernel
theorem dX7_init_265 : decode cX7_init 265 = .ok (.new 56, 3) := by decide +kernel
theorem dX7_init_268 : decode cX7_init 268 = .ok (.dup, 1) := by decide +kernel
theorem dX7_init_269 : decode cX7_init 269 = .ok (.invokespecial 58, 3) := by decide +kernel
theorem dX7_init_272 : decode cX7_init 272 = .ok (.aastore, 1) := by decide +kernel
theorem dX7_init_273 : decode cX7_init 273 = .ok (.iinc 1 1, 3) := by decide +kernel
theorem dX7_init_276 : decode cX7_init 276 = .ok (.goto (-21), 3) := by decide +kernel
theorem dX7_init_279 : decode cX7_init 279 = .ok (.return_, 1) := by decide +kernel
theorem dX7_feed_0 : decode cX7_feed 0 = .ok (.iload_n 1, 1) := by decide +kernel
theorem dX7_feed_1 : decode cX7_feed 1 = .ok (.iconst 1, 1) := by decide +kernel
theorem dX7_feed_2 : decode cX7_feed 2 = .ok (.bipush 8, 2) := by decide +kernel
theorem dX7_feed_4 : decode cX7_feed 4 = .ok (.invokestatic 86, 3) := by decide +kernel
theorem dX7_feed_7 : decode cX7_feed 7 = .ok (.ifCond .eq 6, 3) := by decide +kernel
theorem dX7_feed_10 : decode cX7_feed 10 = .ok (.ldc 90, 2) := by decide +kernel
theorem dX7_feed_12 : decode cX7_feed 12 = .ok (.ireturn, 1) := by decide +kernel
theorem dX7_feed_13 : decode cX7_feed 13 = .ok (.aload_n 0, 1) := by decide +kernel
theorem dX7_feed_14 : decode cX7_feed 14 = .ok (.getfield 10, 3) := by decide +kernel
theorem dX7_feed_17 : decode cX7_feed 17 = .ok (.getfield 91, 3) := by decide +kernel
theorem dX7_feed_20 : decode cX7_feed 20 = .ok (.iload_n 1, 1) := by decide +kernel
theorem dX7_feed_21 : decode cX7_feed 21 = .ok (.iadd, 1) := by decide +kernel
theorem dX7_feed_22 : decode cX7_feed 22 = .ok (.sipush 300, 3) := by decide +kernel
theorem dX7_feed_25 : decode cX7_feed 25 = .ok (.if_icmp .le 6, 3) := by decide +kernel
theorem dX7_feed_28 : decode cX7_feed 28 = .ok (.ldc 94, 2) := by decide +kernel
theorem dX7_feed_30 : decode cX7_feed 30 = .ok (.ireturn, 1) := by decide +kernel
theorem dX7_feed_31 : decode cX7_feed 31 = .ok (.iload_n 1, 1) := by decide +kernel
theorem dX7_feed_32 : decode cX7_feed 32 = .ok (.iconst 1, 1) := by decide +kernel
theorem dX7_feed_33 : decode cX7_feed 33 = .ok (.isub, 1) := by decide +kernel
theorem dX7_feed_34 : decode cX7_feed 34 = .ok (.istore 4, 2) := by decide +kernel
theorem dX7_feed_36 : decode cX7_feed 36 = .ok (.iload 4, 2) := by decide +kernel
theorem dX7_feed_38 : decode cX7_feed 38 = .ok (.ifCond .lt 28, 3) := by decide +kernel
theorem dX7_feed_41 : decode cX7_feed 41 = .ok (.aload_n 0, 1) := by decide +kernel
theorem dX7_feed_42 : decode cX7_feed 42 = .ok (.getfield 10, 3) := by decide +kernel
theorem dX7_feed_45 : decode cX7_feed 45 = .ok (.lload_n 2, 1) := by decide +kernel
theorem dX7_feed_46 : decode cX7_feed 46 = .ok (.bipush 8, 2) := by decide +kernel
theorem dX7_feed_48 : decode cX7_feed 48 = .ok (.iload 4, 2) := by decide +kernel
theorem dX7_feed_50 : decode cX7_feed 50 = .ok (.imul, 1) := by decide +kernel
theorem dX7_feed_51 : decode cX7_feed 51 = .ok (.lushr, 1) := by decide +kernel
theorem dX7_feed_52 : decode cX7_feed 52 = .ok (.l2i, 1) := by decide +kernel
theorem dX7_feed_53 : decode cX7_feed 53 = .ok (.sipush 255, 3) := by decide +kernel
theorem dX7_feed_56 : decode cX7_feed 56 = .ok (.iand, 1) := by decide +kernel
theorem dX7_feed_57 : decode cX7_feed 57 = .ok (.invokevirtual 95, 3) := by decide +kernel
theorem dX7_feed_60 : decode cX7_feed 60 = .ok (.iinc 4 (-1), 3) := by decide +kernel
theorem dX7_feed_63 : decode cX7_feed 63 = .ok (.goto (-27), 3) := by decide +kernel
theorem dX7_feed_66 : decode cX7_feed 66 = .ok (.aload_n 0, 1) := by decide +kernel
theorem dX7_feed_67 : decode cX7_feed 67 = .ok (.getfield 10, 3) := by decide +kernel
theorem dX7_feed_70 : decode cX7_feed 70 = .ok (.getfield 91, 3) := by decide +kernel
theorem dX7_feed_73 : decode cX7_feed 73 = .ok (.ireturn, 1) := by decide +kernel
theorem dX7_house_0 : decode cX7_house 0 = .ok (.iload_n 1, 1) := by decide +kernel
theorem dX7_house_1 : decode cX7_house 1 = .ok (.iconst 0, 1) := by decide +kernel
theorem dX7_house_2 : decode cX7_house 2 = .ok (.iconst 1, 1) := by decide +kernel
theorem dX7_house_3 : decode cX7_house 3 = .ok (.invokestatic 86, 3) := by decide +kernel
theorem dX7_house_6 : decode cX7_house 6 = .ok (.ifCond .eq 6, 3) := by decide +kernel
theorem dX7_house_9 : decode cX7_house 9 = .ok (.ldc 99, 2) := by decide +kernel
theorem dX7_house_11 : decode cX7_house 11 = .ok (.ireturn, 1) := by decide +kernel
theorem dX7_house_12 : decode cX7_house 12 = .ok (.aload_n 0, 1) := by decide +kernel
theorem dX7_house_13 : decode cX7_house 13 = .ok (.getfield 41, 3) := by decide +kernel
theorem dX7_house_16 : decode cX7_house 16 = .ok (.aload_n 0, 1) := by decide +kernel
theorem dX7_house_17 : decode cX7_house 17 = .ok (.getfield 10, 3) := by decide +kernel
theorem dX7_house_20 : decode cX7_house 20 = .ok (.invokevirtual 100, 3) := by decide +kernel
theorem dX7_house_23 : decode cX7_house 23 = .ok (.aload_n 0, 1) := by decide +kernel
theorem dX7_house_24 : decode cX7_house 24 = .ok (.aload_n 0, 1) := by decide +kernel
theorem dX7_house_25 : decode cX7_house 25 = .ok (.getfield 41, 3) := by decide +kernel
theorem dX7_house_28 : decode cX7_house 28 = .ok (.getfield 104, 3) := by decide +kernel
theorem dX7_house_31 : decode cX7_house 31 = .ok (.invokevirtual 107, 3) := by decide +kernel
theorem dX7_house_34 : decode cX7_house 34 = .ok (.istore_n 2, 1) := by decide +kernel
theorem dX7_house_35 : decode cX7_house 35 = .ok (.iload_n 2, 1) := by decide +kernel
theorem dX7_house_36 : decode cX7_house 36 = .ok (.ifCond .lt 42, 3) := by decide +kernel
theorem dX7_house_39 : decode cX7_house 39 = .ok (.aload_n 0, 1) := by decide +kernel
theorem dX7_house_40 : decode cX7_house 40 = .ok (.getfield 18, 3) := by decide +kernel
theorem dX7_house_43 : decode cX7_house 43 = .ok (.iload_n 1, 1) := by decide +kernel
theorem dX7_house_44 : decode cX7_house 44 = .ok (.aaload, 1) := by decide +kernel
theorem dX7_house_45 : decode cX7_house 45 = .ok (.aload_n 0, 1) := by decide +kernel
theorem dX7_house_46 : decode cX7_house 46 = .ok (.getfield 41, 3) := by decide +kernel
theorem dX7_house_49 : decode cX7_house 49 = .ok (.invokevirtual 111, 3) := by decide +kernel
theorem dX7_house_52 : decode cX7_house 52 = .ok (.iconst 0, 1) := by decide +kernel
theorem dX7_house_53 : decode cX7_house 53 = .ok (.istore_n 3, 1) := by decide +kernel
theorem dX7_house_54 : decode cX7_house 54 = .ok (.iload_n 3, 1) := by decide +kernel
theorem dX7_house_55 : decode cX7_house 55 = .ok (.iconst 4, 1) := by decide +kernel
theorem dX7_house_56 : decode cX7_house 56 = .ok (.if_icmp .ge 22, 3) := by decide +kernel
theorem dX7_house_59 : decode cX7_house 59 = .ok (.aload_n 0, 1) := by decide +kernel
theorem dX7_house_60 : decode cX7_house 60 = .ok (.getfield 36, 3) := by decide +kernel
theorem dX7_house_63 : decode cX7_house 63 = .ok (.iload_n 3, 1) := by decide +kernel
theorem dX7_house_64 : decode cX7_house 64 = .ok (.iconst 2, 1) := by decide +kernel
theorem dX7_house_65 : decode cX7_house 65 = .ok (.imul, 1) := by decide +kernel
theorem dX7_house_66 : decode cX7_house 66 = .ok (.iload_n 1, 1) := by decide +kernel
theorem dX7_house_67 : decode cX7_house 67 = .ok (.iadd, 1) := by decide +kernel
theorem dX7_house_68 : decode cX7_house 68 = .ok (.aaload, 1) := by decide +kernel
theorem dX7_house_69 : decode cX7_house 69 = .ok (.invokevirtual 115, 3) := by decide +kernel
theorem dX7_house_72 : decode cX7_house 72 = .ok (.iinc 3 1, 3) := by decide +kernel
theorem dX7_house_75 : decode cX7_house 75 = .ok (.goto (-21), 3) := by decide +kernel
theorem dX7_house_78 : decode cX7_house 78 = .ok (.iload_n 2, 1) := by decide +kernel
theorem dX7_house_79 : decode cX7_house 79 = .ok (.ireturn, 1) := by decide +kernel
theorem dX7_sort_0 : decode cX7_sort 0 = .ok (.aload_n 0, 1) := by decide +kernel
theorem dX7_sort_1 : decode cX7_sort 1 = .ok (.getfield 10, 3) := by decide +kernel
theorem dX7_sort_4 : decode cX7_sort 4 = .ok (.getfield 91, 3) := by decide +kernel
theorem dX7_sort_7 : decode cX7_sort 7 = .ok (.sipush 200, 3) := by decide +kernel
theorem dX7_sort_10 : decode cX7_sort 10 = .ok (.if_icmp .le 6, 3) := by decide +kernel
theorem dX7_sort_13 : decode cX7_sort 13 = .ok (.ldc 118, 2) := by decide +kernel
theorem dX7_sort_15 : decode cX7_sort 15 = .ok (.ireturn, 1) := by decide +kernel
theorem dX7_sort_16 : decode cX7_sort 16 = .ok (.aload_n 0, 1) := by decide +kernel
theorem dX7_sort_17 : decode cX7_sort 17 = .ok (.getfield 67, 3) := by decide +kernel
theorem dX7_sort_20 : decode cX7_sort 20 = .ok (.iconst 4, 1) := by decide +kernel
theorem dX7_sort_21 : decode cX7_sort 21 = .ok (.if_icmp .lt 6, 3) := by decide +kernel
theorem dX7_sort_24 : decode cX7_sort 24 = .ok (.ldc 94, 2) := by decide +kernel
theorem dX7_sort_26 : decode cX7_sort 26 = .ok (.ireturn, 1) := by decide +kernel
theorem dX7_sort_27 : decode cX7_sort 27 = .ok (.aload_n 0, 1) := by decide +kernel
theorem dX7_sort_28 : decode cX7_sort 28 = .ok (.getfield 24, 3) := by decide +kernel
theorem dX7_sort_31 : decode cX7_sort 31 = .ok (.aload_n 0, 1) := by decide +kernel
theorem dX7_sort_32 : decode cX7_sort 32 = .ok (.getfield 67, 3) := by decide +kernel
theorem dX7_sort_35 : decode cX7_sort 35 = .ok (.aaload, 1) := by decide +kernel
theorem dX7_sort_36 : decode cX7_sort 36 = .ok (.aload_n 0, 1) := by decide +kernel
theorem dX7_sort_37 : decode cX7_sort 37 = .ok (.getfield 10, 3) := by decide +kernel
theorem dX7_sort_40 : decode cX7_sort 40 = .ok (.invokevirtual 119, 3) := by decide +kernel
theorem dX7_sort_43 : decode cX7_sort 43 = .ok (.aload_n 0, 1) := by decide +kernel
theorem dX7_sort_44 : decode cX7_sort 44 = .ok (.aload_n 0, 1) := by decide +kernel
theorem dX7_sort_45 : decode cX7_sort 45 = .ok (.getfield 67, 3) := by decide +kernel
theorem dX7_sort_48 : decode cX7_sort 48 = .ok (.invokevirtual 107, 3) := by decide +kernel
theorem dX7_sort_51 : decode cX7_sort 51 = .ok (.istore_n 1, 1) := by decide +kernel
theorem dX7_sort_52 : decode cX7_sort 52 = .ok (.iload_n 1, 1) := by decide +kernel
theorem dX7_sort_53 : decode cX7_sort 53 = .ok (.ifCond .lt 13, 3) := by decide +kernel
theorem dX7_sort_56 : decode cX7_sort 56 = .ok (.aload_n 0, 1) := by decide +kernel
theorem dX7_sort_57 : decode cX7_sort 57 = .ok (.dup, 1) := by decide +kernel
theorem dX7_sort_58 : decode cX7_sort 58 = .ok (.getfield 67, 3) := by decide +kernel
theorem dX7_sort_61 : decode cX7_sort 61 = .ok (.iconst 1, 1) := by decide +kernel
theorem dX7_sort_62 : decode cX7_sort 62 = .ok (.iadd, 1) := by decide +kernel
theorem dX7_sort_63 : decode cX7_sort 63 = .ok (.putfield 67, 3) := by decide +kernel
theorem dX7_sort_66 : decode cX7_sort 66 = .ok (.iload_n 1, 1) := by decide +kernel
theorem dX7_sort_67 : decode cX7_sort 67 = .ok (.ireturn, 1) := by decide +kernel
theorem dX7_rule_0 : decode cX7_rule 0 = .ok (.aload_n 0, 1) := by decide +kernel
theorem dX7_rule_1 : decode cX7_rule 1 = .ok (.getfield 10, 3) := by decide +kernel
theorem dX7_rule_4 : decode cX7_rule 4 = .ok (.getfield 91, 3) := by decide +kernel
theorem dX7_rule_7 : decode cX7_rule 7 = .ok (.bipush 120, 2) := by decide +kernel
theorem dX7_rule_9 : decode cX7_rule 9 = .ok (.if_icmp .le 6, 3) := by decide +kernel
theorem dX7_rule_12 : decode cX7_rule 12 = .ok (.ldc 118, 2) := by decide +kernel
theorem dX7_rule_14 : decode cX7_rule 14 = .ok (.ireturn, 1) := by decide +kernel
theorem dX7_rule_15 : decode cX7_rule 15 = .ok (.aload_n 0, 1) := by decide +kernel
theorem dX7_rule_16 : decode cX7_rule 16 = .ok (.getfield 71, 3) := by decide +kernel
theorem dX7_rule_19 : decode cX7_rule 19 = .ok (.iconst 4, 1) := by decide +kernel
theorem dX7_rule_20 : decode cX7_rule 20 = .ok (.if_icmp .lt 6, 3) := by decide +kernel
theorem dX7_rule_23 : decode cX7_rule 23 = .ok (.ldc 94, 2) := by decide +kernel
theorem dX7_rule_25 : decode cX7_rule 25 = .ok (.ireturn, 1) := by decide +kernel
theorem dX7_rule_26 : decode cX7_rule 26 = .ok (.aload_n 0, 1) := by decide +kernel
theorem dX7_rule_27 : decode cX7_rule 27 = .ok (.getfield 30, 3) := by decide +kernel
theorem dX7_rule_30 : decode cX7_rule 30 = .ok (.aload_n 0, 1) := by decide +kernel
theorem dX7_rule_31 : decode cX7_rule 31 = .ok (.getfield 71, 3) := by decide +kernel
theorem dX7_rule_34 : decode cX7_rule 34 = .ok (.aaload, 1) := by decide +kernel
theorem dX7_rule_35 : decode cX7_rule 35 = .ok (.aload_n 0, 1) := by decide +kernel
theorem dX7_rule_36 : decode cX7_rule 36 = .ok (.getfield 10, 3) := by decide +kernel
theorem dX7_rule_39 : decode cX7_rule 39 = .ok (.invokevirtual 120, 3) := by decide +kernel
theorem dX7_rule_42 : decode cX7_rule 42 = .ok (.aload_n 0, 1) := by decide +kernel
theorem dX7_rule_43 : decode cX7_rule 43 = .ok (.aload_n 0, 1) := by decide +kernel
theorem dX7_rule_44 : decode cX7_rule 44 = .ok (.getfield 71, 3) := by decide +kernel
theorem dX7_rule_47 : decode cX7_rule 47 = .ok (.invokevirtual 107, 3) := by decide +kernel
theorem dX7_rule_50 : decode cX7_rule 50 = .ok (.istore_n 1, 1) := by decide +kernel
theorem dX7_rule_51 : decode cX7_rule 51 = .ok (.iload_n 1, 1) := by decide +kernel
theorem dX7_rule_52 : decode cX7_rule 52 = .ok (.ifCond .lt 13, 3) := by decide +kernel
theorem dX7_rule_55 : decode cX7_rule 55 = .ok (.aload_n 0, 1) := by decide +kernel
theorem dX7_rule_56 : decode cX7_rule 56 = .ok (.dup, 1) := by decide +kernel
theorem dX7_rule_57 : decode cX7_rule 57 = .ok (.getfield 71, 3) := by decide +kernel
theorem dX7_rule_60 : decode cX7_rule 60 = .ok (.iconst 1, 1) := by decide +kernel
theorem dX7_rule_61 : decode cX7_rule 61 = .ok (.iadd, 1) := by decide +kernel
theorem dX7_rule_62 : decode cX7_rule 62 = .ok (.putfield 71, 3) := by decide +kernel
theorem dX7_rule_65 : decode cX7_rule 65 = .ok (.iload_n 1, 1) := by decide +kernel
theorem dX7_rule_66 : decode cX7_rule 66 = .ok (.ireturn, 1) := by decide +kernel
theorem dX7_fault_0 : decode cX7_fault 0 = .ok (.aload_n 0, 1) := by decide +kernel
theorem dX7_fault_1 : decode cX7_fault 1 = .ok (.getfield 74, 3) := by decide +kernel
theorem dX7_fault_4 : decode cX7_fault 4 = .ok (.ireturn, 1) := by decide +kernel
theorem dX7_told_0 : decode cX7_told 0 = .ok (.aload_n 0, 1) := by decide +kernel
theorem dX7_told_1 : decode cX7_told 1 = .ok (.iload_n 1, 1) := by decide +kernel
theorem dX7_told_2 : decode cX7_told 2 = .ok (.invokevirtual 121, 3) := by decide +kernel
theorem dX7_told_5 : decode cX7_told 5 = .ok (.ifCond .ne 6, 3) := by decide +kernel
theorem dX7_told_8 : decode cX7_told 8 = .ok (.ldc 99, 2) := by decide +kernel
theorem dX7_told_10 : decode cX7_told 10 = .ok (.ireturn, 1) := by decide +kernel
theorem dX7_told_11 : decode cX7_told 11 = .ok (.iload_n 2, 1) := by decide +kernel
theorem dX7_told_12 : decode cX7_told 12 = .ok (.tableswitch 100 0 5 #[40, 50, 60, 70, 80, 90], 40) := by decide +kernel
theorem dX7_told_52 : decode cX7_told 52 = .ok (.aload_n 0, 1) := by decide +kernel
theorem dX7_told_53 : decode cX7_told 53 = .ok (.getfield 18, 3) := by decide +kernel
theorem dX7_told_56 : decode cX7_told 56 = .ok (.iload_n 1, 1) := by decide +kernel
theorem dX7_told_57 : decode cX7_told 57 = .ok (.aaload, 1) := by decide +kernel
theorem dX7_told_58 : decode cX7_told 58 = .ok (.getfield 104, 3) := by decide +kernel
theorem dX7_told_61 : decode cX7_told 61 = .ok (.ireturn, 1) := by decide +kernel
theorem dX7_told_62 : decode cX7_told 62 = .ok (.aload_n 0, 1) := by decide +kernel
theorem dX7_told_63 : decode cX7_told 63 = .ok (.getfield 18, 3) := by decide +kernel
theorem dX7_told_66 : decode cX7_told 66 = .ok (.iload_n 1, 1) := by decide +kernel
theorem dX7_told_67 : decode cX7_told 67 = .ok (.aaload, 1) := by decide +kernel
theorem dX7_told_68 : decode cX7_told 68 = .ok (.getfield 125, 3) := by decide +kernel
theorem dX7_told_71 : decode cX7_told 71 = .ok (.ireturn, 1) := by decide +kernel
theorem dX7_told_72 : decode cX7_told 72 = .ok (.aload_n 0, 1) := by decide +kernel
theorem dX7_told_73 : decode cX7_told 73 = .ok (.getfield 18, 3) := by decide +kernel
theorem dX7_told_76 : decode cX7_told 76 = .ok (.iload_n 1, 1) := by decide +kernel
theorem dX7_told_77 : decode cX7_told 77 = .ok (.aaload, 1) := by decide +kernel
theorem dX7_told_78 : decode cX7_told 78 = .ok (.getfield 128, 3) := by decide +kernel
theorem dX7_told_81 : decode cX7_told 81 = .ok (.ireturn, 1) := by decide +kernel
theorem dX7_told_82 : decode cX7_told 82 = .ok (.aload_n 0, 1) := by decide +kernel
theorem dX7_told_83 : decode cX7_told 83 = .ok (.getfield 18, 3) := by decide +kernel
theorem dX7_told_86 : decode cX7_told 86 = .ok (.iload_n 1, 1) := by decide +kernel
theorem dX7_told_87 : decode cX7_told 87 = .ok (.aaload, 1) := by decide +kernel
theorem dX7_told_88 : decode cX7_told 88 = .ok (.getfield 131, 3) := by decide +kernel
theorem dX7_told_91 : decode cX7_told 91 = .ok (.ireturn, 1) := by decide +kernel
theorem dX7_told_92 : decode cX7_told 92 = .ok (.aload_n 0, 1) := by decide +kernel
theorem dX7_told_93 : decode cX7_told 93 = .ok (.getfield 18, 3) := by decide +kernel
theorem dX7_told_96 : decode cX7_told 96 = .ok (.iload_n 1, 1) := by decide +kernel
theorem dX7_told_97 : decode cX7_told 97 = .ok (.aaload, 1) := by decide +kernel
theorem dX7_told_98 : decode cX7_told 98 = .ok (.getfield 134, 3) := by decide +kernel
theorem dX7_told_101 : decode cX7_told 101 = .ok (.ireturn, 1) := by decide +kernel
theorem dX7_told_102 : decode cX7_told 102 = .ok (.aload_n 0, 1) := by decide +kernel
theorem dX7_told_103 : decode cX7_told 103 = .ok (.getfield 18, 3) := by decide +kernel
theorem dX7_told_106 : decode cX7_told 106 = .ok (.iload_n 1, 1) := by decide +kernel
theorem dX7_told_107 : decode cX7_told 107 = .ok (.aaload, 1) := by decide +kernel
theorem dX7_told_108 : decode cX7_told 108 = .ok (.getfield 137, 3) := by decide +kernel
theorem dX7_told_111 : decode cX7_told 111 = .ok (.ireturn, 1) := by decide +kernel
theorem dX7_told_112 : decode cX7_told 112 = .ok (.ldc 90, 2) := by decide +kernel
theorem dX7_told_114 : decode cX7_told 114 = .ok (.ireturn, 1) := by decide +kernel
theorem dX7_pays_0 : decode cX7_pays 0 = .ok (.aload_n 0, 1) := by decide +kernel
theorem dX7_pays_1 : decode cX7_pays 1 = .ok (.iload_n 1, 1) := by decide +kernel
theorem dX7_pays_2 : decode cX7_pays 2 = .ok (.iload_n 2, 1) := by decide +kernel
theorem dX7_pays_3 : decode cX7_pays 3 = .ok (.invokevirtual 140, 3) := by decide +kernel
theorem dX7_pays_6 : decode cX7_pays 6 = .ok (.ifCond .eq 17, 3) := by decide +kernel
theorem dX7_pays_9 : decode cX7_pays 9 = .ok (.aload_n 0, 1) := by decide +kernel
theorem dX7_pays_10 : decode cX7_pays 10 = .ok (.getfield 18, 3) := by decide +kernel
theorem dX7_pays_13 : decode cX7_pays 13 = .ok (.iload_n 1, 1) := by decide +kernel
theorem dX7_pays_14 : decode cX7_pays 14 = .ok (.aaload, 1) := by decide +kernel
theorem dX7_pays_15 : decode cX7_pays 15 = .ok (.getfield 144, 3) := by decide +kernel
theorem dX7_pays_18 : decode cX7_pays 18 = .ok (.iload_n 2, 1) := by decide +kernel
theorem dX7_pays_19 : decode cX7_pays 19 = .ok (.iaload, 1) := by decide +kernel
theorem dX7_pays_20 : decode cX7_pays 20 = .ok (.goto 5, 3) := by decide +kernel
theorem dX7_pays_23 : decode cX7_pays 23 = .ok (.ldc 99, 2) := by decide +kernel
theorem dX7_pays_25 : decode cX7_pays 25 = .ok (.ireturn, 1) := by decide +kernel
theorem dX7_next_0 : decode cX7_next 0 = .ok (.aload_n 0, 1) := by decide +kernel
theorem dX7_next_1 : decode cX7_next 1 = .ok (.iload_n 1, 1) := by decide +kernel
theorem dX7_next_2 : decode cX7_next 2 = .ok (.iload_n 2, 1) := by decide +kernel
theorem dX7_next_3 : decode cX7_next 3 = .ok (.invokevirtual 140, 3) := by decide +kernel
theorem dX7_next_6 : decode cX7_next 6 = .ok (.ifCond .ne 6, 3) := by decide +kernel
theorem dX7_next_9 : decode cX7_next 9 = .ok (.ldc 99, 2) := by decide +kernel
theorem dX7_next_11 : decode cX7_next 11 = .ok (.ireturn, 1) := by decide +kernel
theorem dX7_next_12 : decode cX7_next 12 = .ok (.iload_n 3, 1) := by decide +kernel
theorem dX7_next_13 : decode cX7_next 13 = .ok (.iconst 0, 1) := by decide +kernel
theorem dX7_next_14 : decode cX7_next 14 = .ok (.iconst 3, 1) := by decide +kernel
theorem dX7_next_15 : decode cX7_next 15 = .ok (.invokestatic 86, 3) := by decide +kernel
theorem dX7_next_18 : decode cX7_next 18 = .ok (.ifCond .eq 8, 3) := by decide +kernel
theorem dX7_next_21 : decode cX7_next 21 = .ok (.ldc 90, 2) := by decide +kernel
theorem dX7_next_23 : decode cX7_next 23 = .ok (.goto 14, 3) := by decide +kernel
theorem dX7_next_26 : decode cX7_next 26 = .ok (.aload_n 0, 1) := by decide +kernel
theorem dX7_next_27 : decode cX7_next 27 = .ok (.getfield 18, 3) := by decide +kernel
theorem dX7_next_30 : decode cX7_next 30 = .ok (.iload_n 1, 1) := by decide +kernel
theorem dX7_next_31 : decode cX7_next 31 = .ok (.aaload, 1) := by decide +kernel
theorem dX7_next_32 : decode cX7_next 32 = .ok (.iload_n 2, 1) := by decide +kernel
theorem dX7_next_33 : decode cX7_next 33 = .ok (.iload_n 3, 1) := by decide +kernel
theorem dX7_next_34 : decode cX7_next 34 = .ok (.invokevirtual 148, 3) := by decide +kernel
theorem dX7_next_37 : decode cX7_next 37 = .ok (.ireturn, 1) := by decide +kernel
theorem dX7_scrapes_0 : decode cX7_scrapes 0 = .ok (.aload_n 0, 1) := by decide +kernel
theorem dX7_scrapes_1 : decode cX7_scrapes 1 = .ok (.iload_n 1, 1) := by decide +kernel
theorem dX7_scrapes_2 : decode cX7_scrapes 2 = .ok (.invokevirtual 152, 3) := by decide +kernel
theorem dX7_scrapes_5 : decode cX7_scrapes 5 = .ok (.ifCond .ne 6, 3) := by decide +kernel
theorem dX7_scrapes_8 : decode cX7_scrapes 8 = .ok (.ldc 99, 2) := by decide +kernel
theorem dX7_scrapes_10 : decode cX7_scrapes 10 = .ok (.ireturn, 1) := by decide +kernel
theorem dX7_scrapes_11 : decode cX7_scrapes 11 = .ok (.iload_n 2, 1) := by decide +kernel
theorem dX7_scrapes_12 : decode cX7_scrapes 12 = .ok (.iconst 0, 1) := by decide +kernel
theorem dX7_scrapes_13 : decode cX7_scrapes 13 = .ok (.bipush 19, 2) := by decide +kernel
theorem dX7_scrapes_15 : decode cX7_scrapes 15 = .ok (.invokestatic 86, 3) := by decide +kernel
theorem dX7_scrapes_18 : decode cX7_scrapes 18 = .ok (.ifCond .eq 6, 3) := by decide +kernel
theorem dX7_scrapes_21 : decode cX7_scrapes 21 = .ok (.ldc 90, 2) := by decide +kernel
theorem dX7_scrapes_23 : decode cX7_scrapes 23 = .ok (.ireturn, 1) := by decide +kernel
theorem dX7_scrapes_24 : decode cX7_scrapes 24 = .ok (.aload_n 0, 1) := by decide +kernel
theorem dX7_scrapes_25 : decode cX7_scrapes 25 = .ok (.getfield 24, 3) := by decide +kernel
theorem dX7_scrapes_28 : decode cX7_scrapes 28 = .ok (.iload_n 1, 1) := by decide +kernel
theorem dX7_scrapes_29 : decode cX7_scrapes 29 = .ok (.aaload, 1) := by decide +kernel
theorem dX7_scrapes_30 : decode cX7_scrapes 30 = .ok (.astore_n 3, 1) := by decide +kernel
theorem dX7_scrapes_31 : decode cX7_scrapes 31 = .ok (.iload_n 2, 1) := by decide +kernel
theorem dX7_scrapes_32 : decode cX7_scrapes 32 = .ok (.tableswitch 74 0 3 #[32, 37, 42, 58], 32) := by decide +kernel
theorem dX7_scrapes_64 : decode cX7_scrapes 64 = .ok (.aload_n 3, 1) := by decide +kernel
theorem dX7_scrapes_65 : decode cX7_scrapes 65 = .ok (.getfield 155, 3) := by decide +kernel
theorem dX7_scrapes_68 : decode cX7_scrapes 68 = .ok (.ireturn, 1) := by decide +kernel
theorem dX7_scrapes_69 : decode cX7_scrapes 69 = .ok (.aload_n 3, 1) := by decide +kernel
theorem dX7_scrapes_70 : decode cX7_scrapes 70 = .ok (.getfield 158, 3) := by decide +kernel
theorem dX7_scrapes_73 : decode cX7_scrapes 73 = .ok (.ireturn, 1) := by decide +kernel
theorem dX7_scrapes_74 : decode cX7_scrapes 74 = .ok (.aload_n 3, 1) := by decide +kernel
theorem dX7_scrapes_75 : decode cX7_scrapes 75 = .ok (.getfield 161, 3) := by decide +kernel
theorem dX7_scrapes_78 : decode cX7_scrapes 78 = .ok (.ifCond .eq 10, 3) := by decide +kernel
theorem dX7_scrapes_81 : decode cX7_scrapes 81 = .ok (.aload_n 3, 1) := by decide +kernel
theorem dX7_scrapes_82 : decode cX7_scrapes 82 = .ok (.getfield 165, 3) := by decide +kernel
theorem dX7_scrapes_85 : decode cX7_scrapes 85 = .ok (.goto 4, 3) := by decide +kernel
theorem dX7_scrapes_88 : decode cX7_scrapes 88 = .ok (.iconst (-1), 1) := by decide +kernel
theorem dX7_scrapes_89 : decode cX7_scrapes 89 = .ok (.ireturn, 1) := by decide +kernel
theorem dX7_scrapes_90 : decode cX7_scrapes 90 = .ok (.aload_n 3, 1) := by decide +kernel
theorem dX7_scrapes_91 : decode cX7_scrapes 91 = .ok (.getfield 161, 3) := by decide +kernel
theorem dX7_scrapes_94 : decode cX7_scrapes 94 = .ok (.ifCond .eq 10, 3) := by decide +kernel
theorem dX7_scrapes_97 : decode cX7_scrapes 97 = .ok (.aload_n 3, 1) := by decide +kernel
theorem dX7_scrapes_98 : decode cX7_scrapes 98 = .ok (.getfield 168, 3) := by decide +kernel
theorem dX7_scrapes_101 : decode cX7_scrapes 101 = .ok (.goto 4, 3) := by decide +kernel
theorem dX7_scrapes_104 : decode cX7_scrapes 104 = .ok (.iconst (-1), 1) := by decide +kernel
theorem dX7_scrapes_105 : decode cX7_scrapes 105 = .ok (.ireturn, 1) := by decide +kernel
theorem dX7_scrapes_106 : decode cX7_scrapes 106 = .ok (.iload_n 2, 1) := by decide +kernel
theorem dX7_scrapes_107 : decode cX7_scrapes 107 = .ok (.iconst 4, 1) := by decide +kernel
theorem dX7_scrapes_108 : decode cX7_scrapes 108 = .ok (.isub, 1) := by decide +kernel
theorem dX7_scrapes_109 : decode cX7_scrapes 109 = .ok (.bipush 8, 2) := by decide +kernel
theorem dX7_scrapes_111 : decode cX7_scrapes 111 = .ok (.irem, 1) := by decide +kernel
theorem dX7_scrapes_112 : decode cX7_scrapes 112 = .ok (.istore 4, 2) := by decide +kernel
theorem dX7_scrapes_114 : decode cX7_scrapes 114 = .ok (.iload 4, 2) := by decide +kernel
theorem dX7_scrapes_116 : decode cX7_scrapes 116 = .ok (.aload_n 3, 1) := by decide +kernel
theorem dX7_scrapes_117 : decode cX7_scrapes 117 = .ok (.getfield 155, 3) := by decide +kernel
theorem dX7_scrapes_120 : decode cX7_scrapes 120 = .ok (.if_icmp .lt 5, 3) := by decide +kernel
theorem dX7_scrapes_123 : decode cX7_scrapes 123 = .ok (.iconst (-1), 1) := by decide +kernel
theorem dX7_scrapes_124 : decode cX7_scrapes 124 = .ok (.ireturn, 1) := by decide +kernel
theorem dX7_scrapes_125 : decode cX7_scrapes 125 = .ok (.iload_n 2, 1) := by decide +kernel
theorem dX7_scrapes_126 : decode cX7_scrapes 126 = .ok (.bipush 12, 2) := by decide +kernel
theorem dX7_scrapes_128 : decode cX7_scrapes 128 = .ok (.if_icmp .ge 13, 3) := by decide +kernel
theorem dX7_scrapes_131 : decode cX7_scrapes 131 = .ok (.aload_n 3, 1) := by decide +kernel
theorem dX7_scrapes_132 : decode cX7_scrapes 132 = .ok (.getfield 171, 3) := by decide +kernel
theorem dX7_scrapes_135 : decode cX7_scrapes 135 = .ok (.iload 4, 2) := by decide +kernel
theorem dX7_scrapes_137 : decode cX7_scrapes 137 = .ok (.iaload, 1) := by decide +kernel
theorem dX7_scrapes_138 : decode cX7_scrapes 138 = .ok (.goto 10, 3) := by decide +kernel
theorem dX7_scrapes_141 : decode cX7_scrapes 141 = .ok (.aload_n 3, 1) := by decide +kernel
theorem dX7_scrapes_142 : decode cX7_scrapes 142 = .ok (.getfield 174, 3) := by decide +kernel
theorem dX7_scrapes_145 : decode cX7_scrapes 145 = .ok (.iload 4, 2) := by decide +kernel
theorem dX7_scrapes_147 : decode cX7_scrapes 147 = .ok (.iaload, 1) := by decide +kernel
theorem dX7_scrapes_148 : decode cX7_scrapes 148 = .ok (.ireturn, 1) := by decide +kernel
theorem dX7_cost_0 : decode cX7_cost 0 = .ok (.aload_n 0, 1) := by decide +kernel
theorem dX7_cost_1 : decode cX7_cost 1 = .ok (.iload_n 1, 1) := by decide +kernel
theorem dX7_cost_2 : decode cX7_cost 2 = .ok (.invokevirtual 152, 3) := by decide +kernel
theorem dX7_cost_5 : decode cX7_cost 5 = .ok (.ifCond .eq 13, 3) := by decide +kernel
theorem dX7_cost_8 : decode cX7_cost 8 = .ok (.aload_n 0, 1) := by decide +kernel
theorem dX7_cost_9 : decode cX7_cost 9 = .ok (.iload_n 2, 1) := by decide +kernel
theorem dX7_cost_10 : decode cX7_cost 10 = .ok (.iload 5, 2) := by decide +kernel
theorem dX7_cost_12 : decode cX7_cost 12 = .ok (.invokevirtual 140, 3) := by decide +kernel
theorem dX7_cost_15 : decode cX7_cost 15 = .ok (.ifCond .ne 6, 3) := by decide +kernel
theorem dX7_cost_18 : decode cX7_cost 18 = .ok (.ldc 99, 2) := by decide +kernel
theorem dX7_cost_20 : decode cX7_cost 20 = .ok (.ireturn, 1) := by decide +kernel
theorem dX7_cost_21 : decode cX7_cost 21 = .ok (.iload_n 3, 1) := by decide +kernel
theorem dX7_cost_22 : decode cX7_cost 22 = .ok (.iconst 1, 1) := by decide +kernel
theorem dX7_cost_23 : decode cX7_cost 23 = .ok (.bipush 30, 2) := by decide +kernel
theorem dX7_cost_25 : decode cX7_cost 25 = .ok (.invokestatic 86, 3) := by decide +kernel
theorem dX7_cost_28 : decode cX7_cost 28 = .ok (.ifCond .ne 13, 3) := by decide +kernel
theorem dX7_cost_31 : decode cX7_cost 31 = .ok (.iload 4, 2) := by decide +kernel
theorem dX7_cost_33 : decode cX7_cost 33 = .ok (.iconst 0, 1) := by decide +kernel
theorem dX7_cost_34 : decode cX7_cost 34 = .ok (.iload_n 3, 1) := by decide +kernel
theorem dX7_cost_35 : decode cX7_cost 35 = .ok (.invokestatic 86, 3) := by decide +kernel
theorem dX7_cost_38 : decode cX7_cost 38 = .ok (.ifCond .eq 6, 3) := by decide +kernel
theorem dX7_cost_41 : decode cX7_cost 41 = .ok (.ldc 90, 2) := by decide +kernel
theorem dX7_cost_43 : decode cX7_cost 43 = .ok (.ireturn, 1) := by decide +kernel
theorem dX7_cost_44 : decode cX7_cost 44 = .ok (.aload_n 0, 1) := by decide +kernel
theorem dX7_cost_45 : decode cX7_cost 45 = .ok (.iload_n 1, 1) := by decide +kernel
theorem dX7_cost_46 : decode cX7_cost 46 = .ok (.iload_n 2, 1) := by decide +kernel
theorem dX7_cost_47 : decode cX7_cost 47 = .ok (.iload_n 3, 1) := by decide +kernel
theorem dX7_cost_48 : decode cX7_cost 48 = .ok (.invokevirtual 177, 3) := by decide +kernel
theorem dX7_cost_51 : decode cX7_cost 51 = .ok (.iload_n 3, 1) := by decide +kernel
theorem dX7_cost_52 : decode cX7_cost 52 = .ok (.iload 4, 2) := by decide +kernel
theorem dX7_cost_54 : decode cX7_cost 54 = .ok (.isub, 1) := by decide +kernel
theorem dX7_cost_55 : decode cX7_cost 55 = .ok (.iload 5, 2) := by decide +kernel
theorem dX7_cost_57 : decode cX7_cost 57 = .ok (.invokevirtual 181, 3) := by decide +kernel
theorem dX7_cost_60 : decode cX7_cost 60 = .ok (.ireturn, 1) := by decide +kernel
theorem dX7_in_0 : decode cX7_in 0 = .ok (.aload_n 0, 1) := by decide +kernel
theorem dX7_in_1 : decode cX7_in 1 = .ok (.iload_n 1, 1) := by decide +kernel
theorem dX7_in_2 : decode cX7_in 2 = .ok (.invokevirtual 152, 3) := by decide +kernel
theorem dX7_in_5 : decode cX7_in 5 = .ok (.ifCond .eq 13, 3) := by decide +kernel
theorem dX7_in_8 : decode cX7_in 8 = .ok (.aload_n 0, 1) := by decide +kernel
theorem dX7_in_9 : decode cX7_in 9 = .ok (.iload_n 2, 1) := by decide +kernel
theorem dX7_in_10 : decode cX7_in 10 = .ok (.iload 5, 2) := by decide +kernel
theorem dX7_in_12 : decode cX7_in 12 = .ok (.invokevirtual 140, 3) := by decide +kernel
theorem dX7_in_15 : decode cX7_in 15 = .ok (.ifCond .ne 6, 3) := by decide +kernel
theorem dX7_in_18 : decode cX7_in 18 = .ok (.ldc 99, 2) := by decide +kernel
theorem dX7_in_20 : decode cX7_in 20 = .ok (.ireturn, 1) := by decide +kernel
theorem dX7_in_21 : decode cX7_in 21 = .ok (.iload_n 3, 1) := by decide +kernel
theorem dX7_in_22 : decode cX7_in 22 = .ok (.iload 4, 2) := by decide +kernel
theorem dX7_in_24 : decode cX7_in 24 = .ok (.invokestatic 184, 3) := by decide +kernel
theorem dX7_in_27 : decode cX7_in 27 = .ok (.ifCond .ne 24, 3) := by decide +kernel
theorem dX7_in_30 : decode cX7_in 30 = .ok (.iload 6, 2) := by decide +kernel
theorem dX7_in_32 : decode cX7_in 32 = .ok (.iconst 0, 1) := by decide +kernel
theorem dX7_in_33 : decode cX7_in 33 = .ok (.bipush 12, 2) := by decide +kernel
theorem dX7_in_35 : decode cX7_in 35 = .ok (.invokestatic 86, 3) := by decide +kernel
theorem dX7_in_38 : decode cX7_in 38 = .ok (.ifCond .ne 13, 3) := by decide +kernel
theorem dX7_in_41 : decode cX7_in 41 = .ok (.iload 7, 2) := by decide +kernel
theorem dX7_in_43 : decode cX7_in 43 = .ok (.iconst 0, 1) := by decide +kernel
theorem dX7_in_44 : decode cX7_in 44 = .ok (.iconst 3, 1) := by decide +kernel
theorem dX7_in_45 : decode cX7_in 45 = .ok (.invokestatic 86, 3) := by decide +kernel
theorem dX7_in_48 : decode cX7_in 48 = .ok (.ifCond .eq 6, 3) := by decide +kernel
theorem dX7_in_51 : decode cX7_in 51 = .ok (.ldc 90, 2) := by decide +kernel
theorem dX7_in_53 : decode cX7_in 53 = .ok (.ireturn, 1) := by decide +kernel
theorem dX7_in_54 : decode cX7_in 54 = .ok (.aload_n 0, 1) := by decide +kernel
theorem dX7_in_55 : decode cX7_in 55 = .ok (.iload_n 1, 1) := by decide +kernel
theorem dX7_in_56 : decode cX7_in 56 = .ok (.iload_n 2, 1) := by decide +kernel
theorem dX7_in_57 : decode cX7_in 57 = .ok (.iload_n 3, 1) := by decide +kernel
theorem dX7_in_58 : decode cX7_in 58 = .ok (.invokevirtual 177, 3) := by decide +kernel
theorem dX7_in_61 : decode cX7_in 61 = .ok (.astore 9, 2) := by decide +kernel
theorem dX7_in_63 : decode cX7_in 63 = .ok (.aload 9, 2) := by decide +kernel
theorem dX7_in_65 : decode cX7_in 65 = .ok (.iload_n 3, 1) := by decide +kernel
theorem dX7_in_66 : decode cX7_in 66 = .ok (.iload 4, 2) := by decide +kernel
theorem dX7_in_68 : decode cX7_in 68 = .ok (.isub, 1) := by decide +kernel
theorem dX7_in_69 : decode cX7_in 69 = .ok (.iload 5, 2) := by decide +kernel
theorem dX7_in_71 : decode cX7_in 71 = .ok (.iload 8, 2) := by decide +kernel
theorem dX7_in_73 : decode cX7_in 73 = .ok (.invokevirtual 187, 3) := by decide +kernel
theorem dX7_in_76 : decode cX7_in 76 = .ok (.aload 9, 2) := by decide +kernel
theorem dX7_in_78 : decode cX7_in 78 = .ok (.iload 6, 2) := by decide +kernel
theorem dX7_in_80 : decode cX7_in 80 = .ok (.iload 7, 2) := by decide +kernel
theorem dX7_in_82 : decode cX7_in 82 = .ok (.invokevirtual 191, 3) := by decide +kernel
theorem dX7_in_85 : decode cX7_in 85 = .ok (.ireturn, 1) := by decide +kernel
theorem dX7_takes_0 : decode cX7_takes 0 = .ok (.aload_n 0, 1) := by decide +kernel
theorem dX7_takes_1 : decode cX7_takes 1 = .ok (.iload_n 1, 1) := by decide +kernel
theorem dX7_takes_2 : decode cX7_takes 2 = .ok (.invokevirtual 152, 3) := by decide +kernel
theorem dX7_takes_5 : decode cX7_takes 5 = .ok (.ifCond .eq 13, 3) := by decide +kernel
theorem dX7_takes_8 : decode cX7_takes 8 = .ok (.aload_n 0, 1) := by decide +kernel
theorem dX7_takes_9 : decode cX7_takes 9 = .ok (.iload_n 2, 1) := by decide +kernel
theorem dX7_takes_10 : decode cX7_takes 10 = .ok (.iload 5, 2) := by decide +kernel
theorem dX7_takes_12 : decode cX7_takes 12 = .ok (.invokevirtual 140, 3) := by decide +kernel
theorem dX7_takes_15 : decode cX7_takes 15 = .ok (.ifCond .ne 6, 3) := by decide +kernel
theorem dX7_takes_18 : decode cX7_takes 18 = .ok (.ldc 99, 2) := by decide +kernel
theorem dX7_takes_20 : decode cX7_takes 20 = .ok (.ireturn, 1) := by decide +kernel
theorem dX7_takes_21 : decode cX7_takes 21 = .ok (.iload_n 3, 1) := by decide +kernel
theorem dX7_takes_22 : decode cX7_takes 22 = .ok (.iload 4, 2) := by decide +kernel
theorem dX7_takes_24 : decode cX7_takes 24 = .ok (.invokestatic 184, 3) := by decide +kernel
theorem dX7_takes_27 : decode cX7_takes 27 = .ok (.ifCond .eq 6, 3) := by decide +kernel
theorem dX7_takes_30 : decode cX7_takes 30 = .ok (.ldc 90, 2) := by decide +kernel
theorem dX7_takes_32 : decode cX7_takes 32 = .ok (.ireturn, 1) := by decide +kernel
theorem dX7_takes_33 : decode cX7_takes 33 = .ok (.aload_n 0, 1) := by decide +kernel
theorem dX7_takes_34 : decode cX7_takes 34 = .ok (.iload_n 1, 1) := by decide +kernel
theorem dX7_takes_35 : decode cX7_takes 35 = .ok (.iload_n 2, 1) := by decide +kernel
theorem dX7_takes_36 : decode cX7_takes 36 = .ok (.iload_n 3, 1) := by decide +kernel
theorem dX7_takes_37 : decode cX7_takes 37 = .ok (.invokevirtual 177, 3) := by decide +kernel
theorem dX7_takes_40 : decode cX7_takes 40 = .ok (.iload_n 3, 1) := by decide +kernel
theorem dX7_takes_41 : decode cX7_takes 41 = .ok (.iload 4, 2) := by decide +kernel
theorem dX7_takes_43 : decode cX7_takes 43 = .ok (.isub, 1) := by decide +kernel
theorem dX7_takes_44 : decode cX7_takes 44 = .ok (.iload 5, 2) := by decide +kernel
theorem dX7_takes_46 : decode cX7_takes 46 = .ok (.invokevirtual 194, 3) := by decide +kernel
theorem dX7_takes_49 : decode cX7_takes 49 = .ok (.ifCond .eq 7, 3) := by decide +kernel
theorem dX7_takes_52 : decode cX7_takes 52 = .ok (.iconst 1, 1) := by decide +kernel
theorem dX7_takes_53 : decode cX7_takes 53 = .ok (.goto 4, 3) := by decide +kernel
theorem dX7_takes_56 : decode cX7_takes 56 = .ok (.iconst 0, 1) := by decide +kernel
theorem dX7_takes_57 : decode cX7_takes 57 = .ok (.ireturn, 1) := by decide +kernel
theorem dX7_bar_0 : decode cX7_bar 0 = .ok (.aload_n 0, 1) := by decide +kernel
theorem dX7_bar_1 : decode cX7_bar 1 = .ok (.iload_n 1, 1) := by decide +kernel
theorem dX7_bar_2 : decode cX7_bar 2 = .ok (.invokevirtual 152, 3) := by decide +kernel
theorem dX7_bar_5 : decode cX7_bar 5 = .ok (.ifCond .eq 13, 3) := by decide +kernel
theorem dX7_bar_8 : decode cX7_bar 8 = .ok (.aload_n 0, 1) := by decide +kernel
theorem dX7_bar_9 : decode cX7_bar 9 = .ok (.iload_n 2, 1) := by decide +kernel
theorem dX7_bar_10 : decode cX7_bar 10 = .ok (.iload 5, 2) := by decide +kernel
theorem dX7_bar_12 : decode cX7_bar 12 = .ok (.invokevirtual 140, 3) := by decide +kernel
theorem dX7_bar_15 : decode cX7_bar 15 = .ok (.ifCond .ne 6, 3) := by decide +kernel
theorem dX7_bar_18 : decode cX7_bar 18 = .ok (.ldc 99, 2) := by decide +kernel
theorem dX7_bar_20 : decode cX7_bar 20 = .ok (.ireturn, 1) := by decide +kernel
theorem dX7_bar_21 : decode cX7_bar 21 = .ok (.iload_n 3, 1) := by decide +kernel
theorem dX7_bar_22 : decode cX7_bar 22 = .ok (.iload 4, 2) := by decide +kernel
theorem dX7_bar_24 : decode cX7_bar 24 = .ok (.invokestatic 184, 3) := by decide +kernel
theorem dX7_bar_27 : decode cX7_bar 27 = .ok (.ifCond .ne 24, 3) := by decide +kernel
theorem dX7_bar_30 : decode cX7_bar 30 = .ok (.iload 6, 2) := by decide +kernel
theorem dX7_bar_32 : decode cX7_bar 32 = .ok (.iconst 0, 1) := by decide +kernel
theorem dX7_bar_33 : decode cX7_bar 33 = .ok (.bipush 11, 2) := by decide +kernel
theorem dX7_bar_35 : decode cX7_bar 35 = .ok (.invokestatic 86, 3) := by decide +kernel
theorem dX7_bar_38 : decode cX7_bar 38 = .ok (.ifCond .ne 13, 3) := by decide +kernel
theorem dX7_bar_41 : decode cX7_bar 41 = .ok (.iload 7, 2) := by decide +kernel
theorem dX7_bar_43 : decode cX7_bar 43 = .ok (.iconst 0, 1) := by decide +kernel
theorem dX7_bar_44 : decode cX7_bar 44 = .ok (.iconst 3, 1) := by decide +kernel
theorem dX7_bar_45 : decode cX7_bar 45 = .ok (.invokestatic 86, 3) := by decide +kernel
theorem dX7_bar_48 : decode cX7_bar 48 = .ok (.ifCond .eq 6, 3) := by decide +kernel
theorem dX7_bar_51 : decode cX7_bar 51 = .ok (.ldc 90, 2) := by decide +kernel
theorem dX7_bar_53 : decode cX7_bar 53 = .ok (.ireturn, 1) := by decide +kernel
theorem dX7_bar_54 : decode cX7_bar 54 = .ok (.aload_n 0, 1) := by decide +kernel
theorem dX7_bar_55 : decode cX7_bar 55 = .ok (.iload_n 1, 1) := by decide +kernel
theorem dX7_bar_56 : decode cX7_bar 56 = .ok (.iload_n 2, 1) := by decide +kernel
theorem dX7_bar_57 : decode cX7_bar 57 = .ok (.iload_n 3, 1) := by decide +kernel
theorem dX7_bar_58 : decode cX7_bar 58 = .ok (.invokevirtual 177, 3) := by decide +kernel
theorem dX7_bar_61 : decode cX7_bar 61 = .ok (.astore 9, 2) := by decide +kernel
theorem dX7_bar_63 : decode cX7_bar 63 = .ok (.aload 9, 2) := by decide +kernel
theorem dX7_bar_65 : decode cX7_bar 65 = .ok (.iload_n 3, 1) := by decide +kernel
theorem dX7_bar_66 : decode cX7_bar 66 = .ok (.iload 4, 2) := by decide +kernel
theorem dX7_bar_68 : decode cX7_bar 68 = .ok (.isub, 1) := by decide +kernel
theorem dX7_bar_69 : decode cX7_bar 69 = .ok (.iload 5, 2) := by decide +kernel
theorem dX7_bar_71 : decode cX7_bar 71 = .ok (.iload 8, 2) := by decide +kernel
theorem dX7_bar_73 : decode cX7_bar 73 = .ok (.invokevirtual 187, 3) := by decide +kernel
theorem dX7_bar_76 : decode cX7_bar 76 = .ok (.aload 9, 2) := by decide +kernel
theorem dX7_bar_78 : decode cX7_bar 78 = .ok (.iload 6, 2) := by decide +kernel
theorem dX7_bar_80 : decode cX7_bar 80 = .ok (.iload 7, 2) := by decide +kernel
theorem dX7_bar_82 : decode cX7_bar 82 = .ok (.invokevirtual 197, 3) := by decide +kernel
theorem dX7_bar_85 : decode cX7_bar 85 = .ok (.ireturn, 1) := by decide +kernel
theorem dX7_fixed_0 : decode cX7_fixed 0 = .ok (.aload_n 0, 1) := by decide +kernel
theorem dX7_fixed_1 : decode cX7_fixed 1 = .ok (.iload_n 1, 1) := by decide +kernel
theorem dX7_fixed_2 : decode cX7_fixed 2 = .ok (.invokevirtual 200, 3) := by decide +kernel
theorem dX7_fixed_5 : decode cX7_fixed 5 = .ok (.ifCond .eq 21, 3) := by decide +kernel
theorem dX7_fixed_8 : decode cX7_fixed 8 = .ok (.aload_n 0, 1) := by decide +kernel
theorem dX7_fixed_9 : decode cX7_fixed 9 = .ok (.iload_n 2, 1) := by decide +kernel
theorem dX7_fixed_10 : decode cX7_fixed 10 = .ok (.invokevirtual 152, 3) := by decide +kernel
theorem dX7_fixed_13 : decode cX7_fixed 13 = .ok (.ifCond .eq 13, 3) := by decide +kernel
theorem dX7_fixed_16 : decode cX7_fixed 16 = .ok (.aload_n 0, 1) := by decide +kernel
theorem dX7_fixed_17 : decode cX7_fixed 17 = .ok (.iload_n 3, 1) := by decide +kernel
theorem dX7_fixed_18 : decode cX7_fixed 18 = .ok (.iload 6, 2) := by decide +kernel
theorem dX7_fixed_20 : decode cX7_fixed 20 = .ok (.invokevirtual 140, 3) := by decide +kernel
theorem dX7_fixed_23 : decode cX7_fixed 23 = .ok (.ifCond .ne 6, 3) := by decide +kernel
theorem dX7_fixed_26 : decode cX7_fixed 26 = .ok (.ldc 99, 2) := by decide +kernel
theorem dX7_fixed_28 : decode cX7_fixed 28 = .ok (.ireturn, 1) := by decide +kernel
theorem dX7_fixed_29 : decode cX7_fixed 29 = .ok (.iload 4, 2) := by decide +kernel
theorem dX7_fixed_31 : decode cX7_fixed 31 = .ok (.iconst 1, 1) := by decide +kernel
theorem dX7_fixed_32 : decode cX7_fixed 32 = .ok (.bipush 30, 2) := by decide +kernel
theorem dX7_fixed_34 : decode cX7_fixed 34 = .ok (.invokestatic 86, 3) := by decide +kernel
theorem dX7_fixed_37 : decode cX7_fixed 37 = .ok (.ifCond .ne 14, 3) := by decide +kernel
theorem dX7_fixed_40 : decode cX7_fixed 40 = .ok (.iload 5, 2) := by decide +kernel
theorem dX7_fixed_42 : decode cX7_fixed 42 = .ok (.iconst 0, 1) := by decide +kernel
theorem dX7_fixed_43 : decode cX7_fixed 43 = .ok (.iload 4, 2) := by decide +kernel
theorem dX7_fixed_45 : decode cX7_fixed 45 = .ok (.invokestatic 86, 3) := by decide +kernel
theorem dX7_fixed_48 : decode cX7_fixed 48 = .ok (.ifCond .eq 6, 3) := by decide +kernel
theorem dX7_fixed_51 : decode cX7_fixed 51 = .ok (.ldc 90, 2) := by decide +kernel
theorem dX7_fixed_53 : decode cX7_fixed 53 = .ok (.ireturn, 1) := by decide +kernel
theorem dX7_fixed_54 : decode cX7_fixed 54 = .ok (.aload_n 0, 1) := by decide +kernel
theorem dX7_fixed_55 : decode cX7_fixed 55 = .ok (.getfield 81, 3) := by decide +kernel
theorem dX7_fixed_58 : decode cX7_fixed 58 = .ok (.aload_n 0, 1) := by decide +kernel
theorem dX7_fixed_59 : decode cX7_fixed 59 = .ok (.getfield 24, 3) := by decide +kernel
theorem dX7_fixed_62 : decode cX7_fixed 62 = .ok (.iload_n 2, 1) := by decide +kernel
theorem dX7_fixed_63 : decode cX7_fixed 63 = .ok (.aaload, 1) := by decide +kernel
theorem dX7_fixed_64 : decode cX7_fixed 64 = .ok (.aload_n 0, 1) := by decide +kernel
theorem dX7_fixed_65 : decode cX7_fixed 65 = .ok (.getfield 18, 3) := by decide +kernel
theorem dX7_fixed_68 : decode cX7_fixed 68 = .ok (.iload_n 3, 1) := by decide +kernel
theorem dX7_fixed_69 : decode cX7_fixed 69 = .ok (.aaload, 1) := by decide +kernel
theorem dX7_fixed_70 : decode cX7_fixed 70 = .ok (.aload_n 0, 1) := by decide +kernel
theorem dX7_fixed_71 : decode cX7_fixed 71 = .ok (.getfield 30, 3) := by decide +kernel
theorem dX7_fixed_74 : decode cX7_fixed 74 = .ok (.iload_n 1, 1) := by decide +kernel
theorem dX7_fixed_75 : decode cX7_fixed 75 = .ok (.aaload, 1) := by decide +kernel
theorem dX7_fixed_76 : decode cX7_fixed 76 = .ok (.invokevirtual 203, 3) := by decide +kernel
theorem dX7_fixed_79 : decode cX7_fixed 79 = .ok (.aload_n 0, 1) := by decide +kernel
theorem dX7_fixed_80 : decode cX7_fixed 80 = .ok (.getfield 81, 3) := by decide +kernel
theorem dX7_fixed_83 : decode cX7_fixed 83 = .ok (.iload 4, 2) := by decide +kernel
theorem dX7_fixed_85 : decode cX7_fixed 85 = .ok (.iload 5, 2) := by decide +kernel
theorem dX7_fixed_87 : decode cX7_fixed 87 = .ok (.isub, 1) := by decide +kernel
theorem dX7_fixed_88 : decode cX7_fixed 88 = .ok (.invokevirtual 207, 3) := by decide +kernel
theorem dX7_fixed_91 : decode cX7_fixed 91 = .ok (.aload_n 0, 1) := by decide +kernel
theorem dX7_fixed_92 : decode cX7_fixed 92 = .ok (.getfield 81, 3) := by decide +kernel
theorem dX7_fixed_95 : decode cX7_fixed 95 = .ok (.iload 4, 2) := by decide +kernel
theorem dX7_fixed_97 : decode cX7_fixed 97 = .ok (.iload 5, 2) := by decide +kernel
theorem dX7_fixed_99 : decode cX7_fixed 99 = .ok (.isub, 1) := by decide +kernel
theorem dX7_fixed_100 : decode cX7_fixed 100 = .ok (.iload 6, 2) := by decide +kernel
theorem dX7_fixed_102 : decode cX7_fixed 102 = .ok (.invokevirtual 181, 3) := by decide +kernel
theorem dX7_fixed_105 : decode cX7_fixed 105 = .ok (.ireturn, 1) := by decide +kernel
theorem dX7_scrape_0 : decode cX7_scrape 0 = .ok (.iload_n 1, 1) := by decide +kernel
theorem dX7_scrape_1 : decode cX7_scrape 1 = .ok (.iconst 0, 1) := by decide +kernel
theorem dX7_scrape_2 : decode cX7_scrape 2 = .ok (.bipush 11, 2) := by decide +kernel
theorem dX7_scrape_4 : decode cX7_scrape 4 = .ok (.invokestatic 86, 3) := by decide +kernel
theorem dX7_scrape_7 : decode cX7_scrape 7 = .ok (.ifCond .ne 14, 3) := by decide +kernel
theorem dX7_scrape_10 : decode cX7_scrape 10 = .ok (.iload_n 2, 1) := by decide +kernel
theorem dX7_scrape_11 : decode cX7_scrape 11 = .ok (.iconst 1, 1) := by decide +kernel
theorem dX7_scrape_12 : decode cX7_scrape 12 = .ok (.sipush 999, 3) := by decide +kernel
theorem dX7_scrape_15 : decode cX7_scrape 15 = .ok (.invokestatic 86, 3) := by decide +kernel
theorem dX7_scrape_18 : decode cX7_scrape 18 = .ok (.ifCond .eq 6, 3) := by decide +kernel
theorem dX7_scrape_21 : decode cX7_scrape 21 = .ok (.ldc 90, 2) := by decide +kernel
theorem dX7_scrape_23 : decode cX7_scrape 23 = .ok (.ireturn, 1) := by decide +kernel
theorem dX7_scrape_24 : decode cX7_scrape 24 = .ok (.aload_n 0, 1) := by decide +kernel
theorem dX7_scrape_25 : decode cX7_scrape 25 = .ok (.getfield 59, 3) := by decide +kernel
theorem dX7_scrape_28 : decode cX7_scrape 28 = .ok (.iload_n 1, 1) := by decide +kernel
theorem dX7_scrape_29 : decode cX7_scrape 29 = .ok (.invokevirtual 210, 3) := by decide +kernel
theorem dX7_scrape_32 : decode cX7_scrape 32 = .ok (.ifCond .ne 6, 3) := by decide +kernel
theorem dX7_scrape_35 : decode cX7_scrape 35 = .ok (.ldc 118, 2) := by decide +kernel
theorem dX7_scrape_37 : decode cX7_scrape 37 = .ok (.ireturn, 1) := by decide +kernel
theorem dX7_scrape_38 : decode cX7_scrape 38 = .ok (.aload_n 0, 1) := by decide +kernel
theorem dX7_scrape_39 : decode cX7_scrape 39 = .ok (.getfield 59, 3) := by decide +kernel
theorem dX7_scrape_42 : decode cX7_scrape 42 = .ok (.iload_n 1, 1) := by decide +kernel
theorem dX7_scrape_43 : decode cX7_scrape 43 = .ok (.iload_n 2, 1) := by decide +kernel
theorem dX7_scrape_44 : decode cX7_scrape 44 = .ok (.iload_n 3, 1) := by decide +kernel
theorem dX7_scrape_45 : decode cX7_scrape 45 = .ok (.invokevirtual 213, 3) := by decide +kernel
theorem dX7_scrape_48 : decode cX7_scrape 48 = .ok (.aload_n 0, 1) := by decide +kernel
theorem dX7_scrape_49 : decode cX7_scrape 49 = .ok (.getfield 59, 3) := by decide +kernel
theorem dX7_scrape_52 : decode cX7_scrape 52 = .ok (.getfield 216, 3) := by decide +kernel
theorem dX7_scrape_55 : decode cX7_scrape 55 = .ok (.ireturn, 1) := by decide +kernel
theorem dX7_judge_0 : decode cX7_judge 0 = .ok (.aload_n 0, 1) := by decide +kernel
theorem dX7_judge_1 : decode cX7_judge 1 = .ok (.iload_n 1, 1) := by decide +kernel
theorem dX7_judge_2 : decode cX7_judge 2 = .ok (.invokevirtual 152, 3) := by decide +kernel
theorem dX7_judge_5 : decode cX7_judge 5 = .ok (.ifCond .eq 13, 3) := by decide +kernel
theorem dX7_judge_8 : decode cX7_judge 8 = .ok (.aload_n 0, 1) := by decide +kernel
theorem dX7_judge_9 : decode cX7_judge 9 = .ok (.iload_n 2, 1) := by decide +kernel
theorem dX7_judge_10 : decode cX7_judge 10 = .ok (.iload 5, 2) := by decide +kernel
theorem dX7_judge_12 : decode cX7_judge 12 = .ok (.invokevirtual 140, 3) := by decide +kernel
theorem dX7_judge_15 : decode cX7_judge 15 = .ok (.ifCond .ne 6, 3) := by decide +kernel
theorem dX7_judge_18 : decode cX7_judge 18 = .ok (.ldc 99, 2) := by decide +kernel
theorem dX7_judge_20 : decode cX7_judge 20 = .ok (.ireturn, 1) := by decide +kernel
theorem dX7_judge_21 : decode cX7_judge 21 = .ok (.iload_n 3, 1) := by decide +kernel
theorem dX7_judge_22 : decode cX7_judge 22 = .ok (.iload 4, 2) := by decide +kernel
theorem dX7_judge_24 : decode cX7_judge 24 = .ok (.invokestatic 184, 3) := by decide +kernel
theorem dX7_judge_27 : decode cX7_judge 27 = .ok (.ifCond .eq 6, 3) := by decide +kernel
theorem dX7_judge_30 : decode cX7_judge 30 = .ok (.ldc 90, 2) := by decide +kernel
theorem dX7_judge_32 : decode cX7_judge 32 = .ok (.ireturn, 1) := by decide +kernel
theorem dX7_judge_33 : decode cX7_judge 33 = .ok (.aload_n 0, 1) := by decide +kernel
theorem dX7_judge_34 : decode cX7_judge 34 = .ok (.iload_n 1, 1) := by decide +kernel
theorem dX7_judge_35 : decode cX7_judge 35 = .ok (.iload_n 2, 1) := by decide +kernel
theorem dX7_judge_36 : decode cX7_judge 36 = .ok (.iload_n 3, 1) := by decide +kernel
theorem dX7_judge_37 : decode cX7_judge 37 = .ok (.invokevirtual 177, 3) := by decide +kernel
theorem dX7_judge_40 : decode cX7_judge 40 = .ok (.astore 6, 2) := by decide +kernel
theorem dX7_judge_42 : decode cX7_judge 42 = .ok (.aload 6, 2) := by decide +kernel
theorem dX7_judge_44 : decode cX7_judge 44 = .ok (.iload_n 3, 1) := by decide +kernel
theorem dX7_judge_45 : decode cX7_judge 45 = .ok (.iload 4, 2) := by decide +kernel
theorem dX7_judge_47 : decode cX7_judge 47 = .ok (.isub, 1) := by decide +kernel
theorem dX7_judge_48 : decode cX7_judge 48 = .ok (.iload 5, 2) := by decide +kernel
theorem dX7_judge_50 : decode cX7_judge 50 = .ok (.iconst 0, 1) := by decide +kernel
theorem dX7_judge_51 : decode cX7_judge 51 = .ok (.invokevirtual 187, 3) := by decide +kernel
theorem dX7_judge_54 : decode cX7_judge 54 = .ok (.iconst 0, 1) := by decide +kernel
theorem dX7_judge_55 : decode cX7_judge 55 = .ok (.istore 7, 2) := by decide +kernel
theorem dX7_judge_57 : decode cX7_judge 57 = .ok (.iconst 0, 1) := by decide +kernel
theorem dX7_judge_58 : decode cX7_judge 58 = .ok (.istore 8, 2) := by decide +kernel
theorem dX7_judge_60 : decode cX7_judge 60 = .ok (.iload 8, 2) := by decide +kernel
theorem dX7_judge_62 : decode cX7_judge 62 = .ok (.aload_n 0, 1) := by decide +kernel
theorem dX7_judge_63 : decode cX7_judge 63 = .ok (.getfield 59, 3) := by decide +kernel
theorem dX7_judge_66 : decode cX7_judge 66 = .ok (.getfield 216, 3) := by decide +kernel
theorem dX7_judge_69 : decode cX7_judge 69 = .ok (.if_icmp .ge 72, 3) := by decide +kernel
theorem dX7_judge_72 : decode cX7_judge 72 = .ok (.aload 6, 2) := by decide +kernel
theorem dX7_judge_74 : decode cX7_judge 74 = .ok (.aload_n 0, 1) := by decide +kernel
theorem dX7_judge_75 : decode cX7_judge 75 = .ok (.getfield 59, 3) := by decide +kernel
theorem dX7_judge_78 : decode cX7_judge 78 = .ok (.getfield 219, 3) := by decide +kernel
theorem dX7_judge_81 : decode cX7_judge 81 = .ok (.iload 8, 2) := by decide +kernel
theorem dX7_judge_83 : decode cX7_judge 83 = .ok (.iaload, 1) := by decide +kernel
theorem dX7_judge_84 : decode cX7_judge 84 = .ok (.iload 7, 2) := by decide +kernel
theorem dX7_judge_86 : decode cX7_judge 86 = .ok (.aload_n 0, 1) := by decide +kernel
theorem dX7_judge_87 : decode cX7_judge 87 = .ok (.getfield 59, 3) := by decide +kernel
theorem dX7_judge_90 : decode cX7_judge 90 = .ok (.getfield 222, 3) := by decide +kernel
theorem dX7_judge_93 : decode cX7_judge 93 = .ok (.iload 8, 2) := by decide +kernel
theorem dX7_judge_95 : decode cX7_judge 95 = .ok (.iaload, 1) := by decide +kernel
theorem dX7_judge_96 : decode cX7_judge 96 = .ok (.invokevirtual 223, 3) := by decide +kernel
theorem dX7_judge_99 : decode cX7_judge 99 = .ok (.aload_n 0, 1) := by decide +kernel
theorem dX7_judge_100 : decode cX7_judge 100 = .ok (.getfield 59, 3) := by decide +kernel
theorem dX7_judge_103 : decode cX7_judge 103 = .ok (.getfield 226, 3) := by decide +kernel
theorem dX7_judge_106 : decode cX7_judge 106 = .ok (.iload 8, 2) := by decide +kernel
theorem dX7_judge_108 : decode cX7_judge 108 = .ok (.baload, 1) := by decide +kernel
theorem dX7_judge_109 : decode cX7_judge 109 = .ok (.if_icmp .eq 6, 3) := by decide +kernel
theorem dX7_judge_112 : decode cX7_judge 112 = .ok (.iload 8, 2) := by decide +kernel
theorem dX7_judge_114 : decode cX7_judge 114 = .ok (.ireturn, 1) := by decide +kernel
theorem dX7_judge_115 : decode cX7_judge 115 = .ok (.aload_n 0, 1) := by decide +kernel
theorem dX7_judge_116 : decode cX7_judge 116 = .ok (.getfield 59, 3) := by decide +kernel
theorem dX7_judge_119 : decode cX7_judge 119 = .ok (.getfield 226, 3) := by decide +kernel
theorem dX7_judge_122 : decode cX7_judge 122 = .ok (.iload 8, 2) := by decide +kernel
theorem dX7_judge_124 : decode cX7_judge 124 = .ok (.baload, 1) := by decide +kernel
theorem dX7_judge_125 : decode cX7_judge 125 = .ok (.ifCond .eq 10, 3) := by decide +kernel
theorem dX7_judge_128 : decode cX7_judge 128 = .ok (.iload 7, 2) := by decide +kernel
theorem dX7_judge_130 : decode cX7_judge 130 = .ok (.invokestatic 230, 3) := by decide +kernel
theorem dX7_judge_133 : decode cX7_judge 133 = .ok (.istore 7, 2) := by decide +kernel
theorem dX7_judge_135 : decode cX7_judge 135 = .ok (.iinc 8 1, 3) := by decide +kernel
theorem dX7_judge_138 : decode cX7_judge 138 = .ok (.goto (-78), 3) := by decide +kernel
theorem dX7_judge_141 : decode cX7_judge 141 = .ok (.iconst (-1), 1) := by decide +kernel
theorem dX7_judge_142 : decode cX7_judge 142 = .ok (.ireturn, 1) := by decide +kernel
theorem dX7_standing_0 : decode cX7_standing 0 = .ok (.aload_n 0, 1) := by decide +kernel
theorem dX7_standing_1 : decode cX7_standing 1 = .ok (.iload_n 1, 1) := by decide +kernel
theorem dX7_standing_2 : decode cX7_standing 2 = .ok (.invokevirtual 152, 3) := by decide +kernel
theorem dX7_standing_5 : decode cX7_standing 5 = .ok (.ifCond .eq 21, 3) := by decide +kernel
theorem dX7_standing_8 : decode cX7_standing 8 = .ok (.aload_n 0, 1) := by decide +kernel
theorem dX7_standing_9 : decode cX7_standing 9 = .ok (.iload_n 2, 1) := by decide +kernel
theorem dX7_standing_10 : decode cX7_standing 10 = .ok (.iload 6, 2) := by decide +kernel
theorem dX7_standing_12 : decode cX7_standing 12 = .ok (.invokevirtual 140, 3) := by decide +kernel
theorem dX7_standing_15 : decode cX7_standing 15 = .ok (.ifCond .eq 11, 3) := by decide +kernel
theorem dX7_standing_18 : decode cX7_standing 18 = .ok (.aload_n 0, 1) := by decide +kernel
theorem dX7_standing_19 : decode cX7_standing 19 = .ok (.iload_n 3, 1) := by decide +kernel
theorem dX7_standing_20 : decode cX7_standing 20 = .ok (.invokevirtual 233, 3) := by decide +kernel
theorem dX7_standing_23 : decode cX7_standing 23 = .ok (.ifCond .ne 6, 3) := by decide +kernel
theorem dX7_standing_26 : decode cX7_standing 26 = .ok (.ldc 99, 2) := by decide +kernel
theorem dX7_standing_28 : decode cX7_standing 28 = .ok (.ireturn, 1) := by decide +kernel
theorem dX7_standing_29 : decode cX7_standing 29 = .ok (.iload 4, 2) := by decide +kernel
theorem dX7_standing_31 : decode cX7_standing 31 = .ok (.iconst 1, 1) := by decide +kernel
theorem dX7_standing_32 : decode cX7_standing 32 = .ok (.bipush 30, 2) := by decide +kernel
theorem dX7_standing_34 : decode cX7_standing 34 = .ok (.invokestatic 86, 3) := by decide +kernel
theorem dX7_standing_37 : decode cX7_standing 37 = .ok (.ifCond .ne 14, 3) := by decide +kernel
theorem dX7_standing_40 : decode cX7_standing 40 = .ok (.iload 5, 2) := by decide +kernel
theorem dX7_standing_42 : decode cX7_standing 42 = .ok (.iconst 0, 1) := by decide +kernel
theorem dX7_standing_43 : decode cX7_standing 43 = .ok (.bipush 30, 2) := by decide +kernel
theorem dX7_standing_45 : decode cX7_standing 45 = .ok (.invokestatic 86, 3) := by decide +kernel
theorem dX7_standing_48 : decode cX7_standing 48 = .ok (.ifCond .eq 6, 3) := by decide +kernel
theorem dX7_standing_51 : decode cX7_standing 51 = .ok (.ldc 90, 2) := by decide +kernel
theorem dX7_standing_53 : decode cX7_standing 53 = .ok (.ireturn, 1) := by decide +kernel
theorem dX7_standing_54 : decode cX7_standing 54 = .ok (.aload_n 0, 1) := by decide +kernel
theorem dX7_standing_55 : decode cX7_standing 55 = .ok (.getfield 48, 3) := by decide +kernel
theorem dX7_standing_58 : decode cX7_standing 58 = .ok (.aload_n 0, 1) := by decide +kernel
theorem dX7_standing_59 : decode cX7_standing 59 = .ok (.iload_n 1, 1) := by decide +kernel
theorem dX7_standing_60 : decode cX7_standing 60 = .ok (.iload_n 2, 1) := by decide +kernel
theorem dX7_standing_61 : decode cX7_standing 61 = .ok (.iload_n 3, 1) := by decide +kernel
theorem dX7_standing_62 : decode cX7_standing 62 = .ok (.iload 4, 2) := by decide +kernel
theorem dX7_standing_64 : decode cX7_standing 64 = .ok (.invokevirtual 236, 3) := by decide +kernel
theorem dX7_standing_67 : decode cX7_standing 67 = .ok (.iload 4, 2) := by decide +kernel
theorem dX7_standing_69 : decode cX7_standing 69 = .ok (.invokevirtual 240, 3) := by decide +kernel
theorem dX7_standing_72 : decode cX7_standing 72 = .ok (.aload_n 0, 1) := by decide +kernel
theorem dX7_standing_73 : decode cX7_standing 73 = .ok (.getfield 48, 3) := by decide +kernel
theorem dX7_standing_76 : decode cX7_standing 76 = .ok (.aload_n 0, 1) := by decide +kernel
theorem dX7_standing_77 : decode cX7_standing 77 = .ok (.getfield 18, 3) := by decide +kernel
theorem dX7_standing_80 : decode cX7_standing 80 = .ok (.iload_n 2, 1) := by decide +kernel
theorem dX7_standing_81 : decode cX7_standing 81 = .ok (.aaload, 1) := by decide +kernel
theorem dX7_standing_82 : decode cX7_standing 82 = .ok (.iload 5, 2) := by decide +kernel
theorem dX7_standing_84 : decode cX7_standing 84 = .ok (.invokevirtual 244, 3) := by decide +kernel
theorem dX7_standing_87 : decode cX7_standing 87 = .ok (.aload_n 0, 1) := by decide +kernel
theorem dX7_standing_88 : decode cX7_standing 88 = .ok (.getfield 48, 3) := by decide +kernel
theorem dX7_standing_91 : decode cX7_standing 91 = .ok (.getfield 248, 3) := by decide +kernel
theorem dX7_standing_94 : decode cX7_standing 94 = .ok (.iload 6, 2) := by decide +kernel
theorem dX7_standing_96 : decode cX7_standing 96 = .ok (.iaload, 1) := by decide +kernel
theorem dX7_standing_97 : decode cX7_standing 97 = .ok (.ireturn, 1) := by decide +kernel
theorem dX7_odds_0 : decode cX7_odds 0 = .ok (.aload_n 0, 1) := by decide +kernel
theorem dX7_odds_1 : decode cX7_odds 1 = .ok (.iload_n 1, 1) := by decide +kernel
theorem dX7_odds_2 : decode cX7_odds 2 = .ok (.invokevirtual 152, 3) := by decide +kernel
theorem dX7_odds_5 : decode cX7_odds 5 = .ok (.ifCond .eq 21, 3) := by decide +kernel
theorem dX7_odds_8 : decode cX7_odds 8 = .ok (.aload_n 0, 1) := by decide +kernel
theorem dX7_odds_9 : decode cX7_odds 9 = .ok (.iload_n 2, 1) := by decide +kernel
theorem dX7_odds_10 : decode cX7_odds 10 = .ok (.iload 5, 2) := by decide +kernel
theorem dX7_odds_12 : decode cX7_odds 12 = .ok (.invokevirtual 140, 3) := by decide +kernel
theorem dX7_odds_15 : decode cX7_odds 15 = .ok (.ifCond .eq 11, 3) := by decide +kernel
theorem dX7_odds_18 : decode cX7_odds 18 = .ok (.aload_n 0, 1) := by decide +kernel
theorem dX7_odds_19 : decode cX7_odds 19 = .ok (.iload_n 3, 1) := by decide +kernel
theorem dX7_odds_20 : decode cX7_odds 20 = .ok (.invokevirtual 233, 3) := by decide +kernel
theorem dX7_odds_23 : decode cX7_odds 23 = .ok (.ifCond .ne 6, 3) := by decide +kernel
theorem dX7_odds_26 : decode cX7_odds 26 = .ok (.ldc 99, 2) := by decide +kernel
theorem dX7_odds_28 : decode cX7_odds 28 = .ok (.ireturn, 1) := by decide +kernel
theorem dX7_odds_29 : decode cX7_odds 29 = .ok (.iload 4, 2) := by decide +kernel
theorem dX7_odds_31 : decode cX7_odds 31 = .ok (.iconst 1, 1) := by decide +kernel
theorem dX7_odds_32 : decode cX7_odds 32 = .ok (.bipush 30, 2) := by decide +kernel
theorem dX7_odds_34 : decode cX7_odds 34 = .ok (.invokestatic 86, 3) := by decide +kernel
theorem dX7_odds_37 : decode cX7_odds 37 = .ok (.ifCond .ne 13, 3) := by decide +kernel
theorem dX7_odds_40 : decode cX7_odds 40 = .ok (.iload 6, 2) := by decide +kernel
theorem dX7_odds_42 : decode cX7_odds 42 = .ok (.iconst 0, 1) := by decide +kernel
theorem dX7_odds_43 : decode cX7_odds 43 = .ok (.iconst 3, 1) := by decide +kernel
theorem dX7_odds_44 : decode cX7_odds 44 = .ok (.invokestatic 86, 3) := by decide +kernel
theorem dX7_odds_47 : decode cX7_odds 47 = .ok (.ifCond .eq 6, 3) := by decide +kernel
theorem dX7_odds_50 : decode cX7_odds 50 = .ok (.ldc 90, 2) := by decide +kernel
theorem dX7_odds_52 : decode cX7_odds 52 = .ok (.ireturn, 1) := by decide +kernel
theorem dX7_odds_53 : decode cX7_odds 53 = .ok (.aload_n 0, 1) := by decide +kernel
theorem dX7_odds_54 : decode cX7_odds 54 = .ok (.getfield 48, 3) := by decide +kernel
theorem dX7_odds_57 : decode cX7_odds 57 = .ok (.aload_n 0, 1) := by decide +kernel
theorem dX7_odds_58 : decode cX7_odds 58 = .ok (.iload_n 1, 1) := by decide +kernel
theorem dX7_odds_59 : decode cX7_odds 59 = .ok (.iload_n 2, 1) := by decide +kernel
theorem dX7_odds_60 : decode cX7_odds 60 = .ok (.iload_n 3, 1) := by decide +kernel
theorem dX7_odds_61 : decode cX7_odds 61 = .ok (.iload 4, 2) := by decide +kernel
theorem dX7_odds_63 : decode cX7_odds 63 = .ok (.invokevirtual 236, 3) := by decide +kernel
theorem dX7_odds_66 : decode cX7_odds 66 = .ok (.iload 4, 2) := by decide +kernel
theorem dX7_odds_68 : decode cX7_odds 68 = .ok (.iload 5, 2) := by decide +kernel
theorem dX7_odds_70 : decode cX7_odds 70 = .ok (.invokevirtual 251, 3) := by decide +kernel
theorem dX7_odds_73 : decode cX7_odds 73 = .ok (.aload_n 0, 1) := by decide +kernel
theorem dX7_odds_74 : decode cX7_odds 74 = .ok (.getfield 48, 3) := by decide +kernel
theorem dX7_odds_77 : decode cX7_odds 77 = .ok (.iload 5, 2) := by decide +kernel
theorem dX7_odds_79 : decode cX7_odds 79 = .ok (.iload 6, 2) := by decide +kernel
theorem dX7_odds_81 : decode cX7_odds 81 = .ok (.invokevirtual 255, 3) := by decide +kernel
theorem dX7_odds_84 : decode cX7_odds 84 = .ok (.ireturn, 1) := by decide +kernel
theorem dX7_even_0 : decode cX7_even 0 = .ok (.aload_n 0, 1) := by decide +kernel
theorem dX7_even_1 : decode cX7_even 1 = .ok (.iload_n 1, 1) := by decide +kernel
theorem dX7_even_2 : decode cX7_even 2 = .ok (.invokevirtual 152, 3) := by decide +kernel
theorem dX7_even_5 : decode cX7_even 5 = .ok (.ifCond .eq 19, 3) := by decide +kernel
theorem dX7_even_8 : decode cX7_even 8 = .ok (.aload_n 0, 1) := by decide +kernel
theorem dX7_even_9 : decode cX7_even 9 = .ok (.iload_n 2, 1) := by decide +kernel
theorem dX7_even_10 : decode cX7_even 10 = .ok (.invokevirtual 121, 3) := by decide +kernel
theorem dX7_even_13 : decode cX7_even 13 = .ok (.ifCond .eq 11, 3) := by decide +kernel
theorem dX7_even_16 : decode cX7_even 16 = .ok (.aload_n 0, 1) := by decide +kernel
theorem dX7_even_17 : decode cX7_even 17 = .ok (.iload_n 3, 1) := by decide +kernel
theorem dX7_even_18 : decode cX7_even 18 = .ok (.invokevirtual 233, 3) := by decide +kernel
theorem dX7_even_21 : decode cX7_even 21 = .ok (.ifCond .ne 6, 3) := by decide +kernel
theorem dX7_even_24 : decode cX7_even 24 = .ok (.ldc 99, 2) := by decide +kernel
theorem dX7_even_26 : decode cX7_even 26 = .ok (.ireturn, 1) := by decide +kernel
theorem dX7_even_27 : decode cX7_even 27 = .ok (.iload 4, 2) := by decide +kernel
theorem dX7_even_29 : decode cX7_even 29 = .ok (.iconst 1, 1) := by decide +kernel
theorem dX7_even_30 : decode cX7_even 30 = .ok (.bipush 30, 2) := by decide +kernel
theorem dX7_even_32 : decode cX7_even 32 = .ok (.invokestatic 86, 3) := by decide +kernel
theorem dX7_even_35 : decode cX7_even 35 = .ok (.ifCond .ne 24, 3) := by decide +kernel
theorem dX7_even_38 : decode cX7_even 38 = .ok (.iload 5, 2) := by decide +kernel
theorem dX7_even_40 : decode cX7_even 40 = .ok (.iconst 0, 1) := by decide +kernel
theorem dX7_even_41 : decode cX7_even 41 = .ok (.bipush 30, 2) := by decide +kernel
theorem dX7_even_43 : decode cX7_even 43 = .ok (.invokestatic 86, 3) := by decide +kernel
theorem dX7_even_46 : decode cX7_even 46 = .ok (.ifCond .ne 13, 3) := by decide +kernel
theorem dX7_even_49 : decode cX7_even 49 = .ok (.iload 6, 2) := by decide +kernel
theorem dX7_even_51 : decode cX7_even 51 = .ok (.iconst 0, 1) := by decide +kernel
theorem dX7_even_52 : decode cX7_even 52 = .ok (.iconst 2, 1) := by decide +kernel
theorem dX7_even_53 : decode cX7_even 53 = .ok (.invokestatic 86, 3) := by decide +kernel
theorem dX7_even_56 : decode cX7_even 56 = .ok (.ifCond .eq 6, 3) := by decide +kernel
theorem dX7_even_59 : decode cX7_even 59 = .ok (.ldc 90, 2) := by decide +kernel
theorem dX7_even_61 : decode cX7_even 61 = .ok (.ireturn, 1) := by decide +kernel
theorem dX7_even_62 : decode cX7_even 62 = .ok (.aload_n 0, 1) := by decide +kernel
theorem dX7_even_63 : decode cX7_even 63 = .ok (.getfield 48, 3) := by decide +kernel
theorem dX7_even_66 : decode cX7_even 66 = .ok (.aload_n 0, 1) := by decide +kernel
theorem dX7_even_67 : decode cX7_even 67 = .ok (.iload_n 1, 1) := by decide +kernel
theorem dX7_even_68 : decode cX7_even 68 = .ok (.iload_n 2, 1) := by decide +kernel
theorem dX7_even_69 : decode cX7_even 69 = .ok (.iload_n 3, 1) := by decide +kernel
theorem dX7_even_70 : decode cX7_even 70 = .ok (.iload 4, 2) := by decide +kernel
theorem dX7_even_72 : decode cX7_even 72 = .ok (.invokevirtual 236, 3) := by decide +kernel
theorem dX7_even_75 : decode cX7_even 75 = .ok (.iload 4, 2) := by decide +kernel
theorem dX7_even_77 : decode cX7_even 77 = .ok (.invokevirtual 240, 3) := by decide +kernel
theorem dX7_even_80 : decode cX7_even 80 = .ok (.aload_n 0, 1) := by decide +kernel
theorem dX7_even_81 : decode cX7_even 81 = .ok (.getfield 48, 3) := by decide +kernel
theorem dX7_even_84 : decode cX7_even 84 = .ok (.aload_n 0, 1) := by decide +kernel
theorem dX7_even_85 : decode cX7_even 85 = .ok (.getfield 18, 3) := by decide +kernel
theorem dX7_even_88 : decode cX7_even 88 = .ok (.iload_n 2, 1) := by decide +kernel
theorem dX7_even_89 : decode cX7_even 89 = .ok (.aaload, 1) := by decide +kernel
theorem dX7_even_90 : decode cX7_even 90 = .ok (.iload 5, 2) := by decide +kernel
theorem dX7_even_92 : decode cX7_even 92 = .ok (.invokevirtual 244, 3) := by decide +kernel
theorem dX7_even_95 : decode cX7_even 95 = .ok (.aload_n 0, 1) := by decide +kernel
theorem dX7_even_96 : decode cX7_even 96 = .ok (.getfield 48, 3) := by decide +kernel
theorem dX7_even_99 : decode cX7_even 99 = .ok (.aload_n 0, 1) := by decide +kernel
theorem dX7_even_100 : decode cX7_even 100 = .ok (.getfield 18, 3) := by decide +kernel
theorem dX7_even_103 : decode cX7_even 103 = .ok (.iload_n 2, 1) := by decide +kernel
theorem dX7_even_104 : decode cX7_even 104 = .ok (.aaload, 1) := by decide +kernel
theorem dX7_even_105 : decode cX7_even 105 = .ok (.invokevirtual 258, 3) := by decide +kernel
theorem dX7_even_108 : decode cX7_even 108 = .ok (.istore 7, 2) := by decide +kernel
theorem dX7_even_110 : decode cX7_even 110 = .ok (.aload_n 0, 1) := by decide +kernel
theorem dX7_even_111 : decode cX7_even 111 = .ok (.getfield 48, 3) := by decide +kernel
theorem dX7_even_114 : decode cX7_even 114 = .ok (.invokevirtual 262, 3) := by decide +kernel
theorem dX7_even_117 : decode cX7_even 117 = .ok (.istore 8, 2) := by decide +kernel
theorem dX7_even_119 : decode cX7_even 119 = .ok (.iload 6, 2) := by decide +kernel
theorem dX7_even_121 : decode cX7_even 121 = .ok (.ifCond .ne 8, 3) := by decide +kernel
theorem dX7_even_124 : decode cX7_even 124 = .ok (.iload 7, 2) := by decide +kernel
theorem dX7_even_126 : decode cX7_even 126 = .ok (.goto 19, 3) := by decide +kernel
theorem dX7_even_129 : decode cX7_even 129 = .ok (.iload 6, 2) := by decide +kernel
theorem dX7_even_131 : decode cX7_even 131 = .ok (.iconst 1, 1) := by decide +kernel
theorem dX7_even_132 : decode cX7_even 132 = .ok (.if_icmp .ne 8, 3) := by decide +kernel
theorem dX7_even_135 : decode cX7_even 135 = .ok (.iload 8, 2) := by decide +kernel
theorem dX7_even_137 : decode cX7_even 137 = .ok (.goto 8, 3) := by decide +kernel
theorem dX7_even_140 : decode cX7_even 140 = .ok (.iload 7, 2) := by decide +kernel
theorem dX7_even_142 : decode cX7_even 142 = .ok (.iload 8, 2) := by decide +kernel
theorem dX7_even_144 : decode cX7_even 144 = .ok (.isub, 1) := by decide +kernel
theorem dX7_even_145 : decode cX7_even 145 = .ok (.ireturn, 1) := by decide +kernel
theorem dX7_year_0 : decode cX7_year 0 = .ok (.iload_n 1, 1) := by decide +kernel
theorem dX7_year_1 : decode cX7_year 1 = .ok (.iconst 0, 1) := by decide +kernel
theorem dX7_year_2 : decode cX7_year 2 = .ok (.bipush 9, 2) := by decide +kernel
theorem dX7_year_4 : decode cX7_year 4 = .ok (.invokestatic 86, 3) := by decide +kernel
theorem dX7_year_7 : decode cX7_year 7 = .ok (.ifCond .ne 12, 3) := by decide +kernel
theorem dX7_year_10 : decode cX7_year 10 = .ok (.iload_n 2, 1) := by decide +kernel
theorem dX7_year_11 : decode cX7_year 11 = .ok (.iconst 0, 1) := by decide +kernel
theorem dX7_year_12 : decode cX7_year 12 = .ok (.iconst 3, 1) := by decide +kernel
theorem dX7_year_13 : decode cX7_year 13 = .ok (.invokestatic 86, 3) := by decide +kernel
theorem dX7_year_16 : decode cX7_year 16 = .ok (.ifCond .eq 6, 3) := by decide +kernel
theorem dX7_year_19 : decode cX7_year 19 = .ok (.ldc 90, 2) := by decide +kernel
theorem dX7_year_21 : decode cX7_year 21 = .ok (.ireturn, 1) := by decide +kernel
theorem dX7_year_22 : decode cX7_year 22 = .ok (.aload_n 0, 1) := by decide +kernel
theorem dX7_year_23 : decode cX7_year 23 = .ok (.getfield 59, 3) := by decide +kernel
theorem dX7_year_26 : decode cX7_year 26 = .ok (.getfield 266, 3) := by decide +kernel
theorem dX7_year_29 : decode cX7_year 29 = .ok (.bipush 8, 2) := by decide +kernel
theorem dX7_year_31 : decode cX7_year 31 = .ok (.if_icmp .lt 6, 3) := by decide +kernel
theorem dX7_year_34 : decode cX7_year 34 = .ok (.ldc 94, 2) := by decide +kernel
theorem dX7_year_36 : decode cX7_year 36 = .ok (.ireturn, 1) := by decide +kernel
theorem dX7_year_37 : decode cX7_year 37 = .ok (.aload_n 0, 1) := by decide +kernel
theorem dX7_year_38 : decode cX7_year 38 = .ok (.getfield 59, 3) := by decide +kernel
theorem dX7_year_41 : decode cX7_year 41 = .ok (.iload_n 1, 1) := by decide +kernel
theorem dX7_year_42 : decode cX7_year 42 = .ok (.iload_n 2, 1) := by decide +kernel
theorem dX7_year_43 : decode cX7_year 43 = .ok (.invokevirtual 269, 3) := by decide +kernel
theorem dX7_year_46 : decode cX7_year 46 = .ok (.aload_n 0, 1) := by decide +kernel
theorem dX7_year_47 : decode cX7_year 47 = .ok (.getfield 59, 3) := by decide +kernel
theorem dX7_year_50 : decode cX7_year 50 = .ok (.getfield 266, 3) := by decide +kernel
theorem dX7_year_53 : decode cX7_year 53 = .ok (.ireturn, 1) := by decide +kernel
theorem dX7_clear_0 : decode cX7_clear 0 = .ok (.aload_n 0, 1) := by decide +kernel
theorem dX7_clear_1 : decode cX7_clear 1 = .ok (.getfield 59, 3) := by decide +kernel
theorem dX7_clear_4 : decode cX7_clear 4 = .ok (.getfield 216, 3) := by decide +kernel
theorem dX7_clear_7 : decode cX7_clear 7 = .ok (.aload_n 0, 1) := by decide +kernel
theorem dX7_clear_8 : decode cX7_clear 8 = .ok (.getfield 59, 3) := by decide +kernel
theorem dX7_clear_11 : decode cX7_clear 11 = .ok (.getfield 266, 3) := by decide +kernel
theorem dX7_clear_14 : decode cX7_clear 14 = .ok (.iadd, 1) := by decide +kernel
theorem dX7_clear_15 : decode cX7_clear 15 = .ok (.istore_n 1, 1) := by decide +kernel
theorem dX7_clear_16 : decode cX7_clear 16 = .ok (.aload_n 0, 1) := by decide +kernel
theorem dX7_clear_17 : decode cX7_clear 17 = .ok (.getfield 59, 3) := by decide +kernel
theorem dX7_clear_20 : decode cX7_clear 20 = .ok (.iconst 0, 1) := by decide +kernel
theorem dX7_clear_21 : decode cX7_clear 21 = .ok (.putfield 216, 3) := by decide +kernel
theorem dX7_clear_24 : decode cX7_clear 24 = .ok (.aload_n 0, 1) := by decide +kernel
theorem dX7_clear_25 : decode cX7_clear 25 = .ok (.getfield 59, 3) := by decide +kernel
theorem dX7_clear_28 : decode cX7_clear 28 = .ok (.iconst 0, 1) := by decide +kernel
theorem dX7_clear_29 : decode cX7_clear 29 = .ok (.putfield 266, 3) := by decide +kernel
theorem dX7_clear_32 : decode cX7_clear 32 = .ok (.iload_n 1, 1) := by decide +kernel
theorem dX7_clear_33 : decode cX7_clear 33 = .ok (.ireturn, 1) := by decide +kernel
theorem dX7_think_0 : decode cX7_think 0 = .ok (.aload_n 0, 1) := by decide +kernel
theorem dX7_think_1 : decode cX7_think 1 = .ok (.iload_n 1, 1) := by decide +kernel
theorem dX7_think_2 : decode cX7_think 2 = .ok (.invokevirtual 152, 3) := by decide +kernel
theorem dX7_think_5 : decode cX7_think 5 = .ok (.ifCond .eq 11, 3) := by decide +kernel
theorem dX7_think_8 : decode cX7_think 8 = .ok (.aload_n 0, 1) := by decide +kernel
theorem dX7_think_9 : decode cX7_think 9 = .ok (.iload_n 2, 1) := by decide +kernel
theorem dX7_think_10 : decode cX7_think 10 = .ok (.invokevirtual 121, 3) := by decide +kernel
theorem dX7_think_13 : decode cX7_think 13 = .ok (.ifCond .ne 6, 3) := by decide +kernel
theorem dX7_think_16 : decode cX7_think 16 = .ok (.ldc 99, 2) := by decide +kernel
theorem dX7_think_18 : decode cX7_think 18 = .ok (.ireturn, 1) := by decide +kernel
theorem dX7_think_19 : decode cX7_think 19 = .ok (.iload_n 3, 1) := by decide +kernel
theorem dX7_think_20 : decode cX7_think 20 = .ok (.iconst 1, 1) := by decide +kernel
theorem dX7_think_21 : decode cX7_think 21 = .ok (.bipush 30, 2) := by decide +kernel
theorem dX7_think_23 : decode cX7_think 23 = .ok (.invokestatic 86, 3) := by decide +kernel
theorem dX7_think_26 : decode cX7_think 26 = .ok (.ifCond .eq 6, 3) := by decide +kernel
theorem dX7_think_29 : decode cX7_think 29 = .ok (.ldc 90, 2) := by decide +kernel
theorem dX7_think_31 : decode cX7_think 31 = .ok (.ireturn, 1) := by decide +kernel
theorem dX7_think_32 : decode cX7_think 32 = .ok (.aload_n 0, 1) := by decide +kernel
theorem dX7_think_33 : decode cX7_think 33 = .ok (.getfield 59, 3) := by decide +kernel
theorem dX7_think_36 : decode cX7_think 36 = .ok (.invokevirtual 273, 3) := by decide +kernel
theorem dX7_think_39 : decode cX7_think 39 = .ok (.aload_n 0, 1) := by decide +kernel
theorem dX7_think_40 : decode cX7_think 40 = .ok (.getfield 18, 3) := by decide +kernel
theorem dX7_think_43 : decode cX7_think 43 = .ok (.iload_n 2, 1) := by decide +kernel
theorem dX7_think_44 : decode cX7_think 44 = .ok (.aaload, 1) := by decide +kernel
theorem dX7_think_45 : decode cX7_think 45 = .ok (.getfield 104, 3) := by decide +kernel
theorem dX7_think_48 : decode cX7_think 48 = .ok (.if_icmp .lt 6, 3) := by decide +kernel
theorem dX7_think_51 : decode cX7_think 51 = .ok (.ldc 118, 2) := by decide +kernel
theorem dX7_think_53 : decode cX7_think 53 = .ok (.ireturn, 1) := by decide +kernel
theorem dX7_think_54 : decode cX7_think 54 = .ok (.aload_n 0, 1) := by decide +kernel
theorem dX7_think_55 : decode cX7_think 55 = .ok (.iload_n 2, 1) := by decide +kernel
theorem dX7_think_56 : decode cX7_think 56 = .ok (.iload_n 3, 1) := by decide +kernel
theorem dX7_think_57 : decode cX7_think 57 = .ok (.invokevirtual 276, 3) := by decide +kernel
theorem dX7_think_60 : decode cX7_think 60 = .ok (.lconst 0, 1) := by decide +kernel
theorem dX7_think_61 : decode cX7_think 61 = .ok (.lstore 4, 2) := by decide +kernel
theorem dX7_think_63 : decode cX7_think 63 = .ok (.iconst 0, 1) := by decide +kernel
theorem dX7_think_64 : decode cX7_think 64 = .ok (.istore 6, 2) := by decide +kernel
theorem dX7_think_66 : decode cX7_think 66 = .ok (.iload 6, 2) := by decide +kernel
theorem dX7_think_68 : decode cX7_think 68 = .ok (.aload_n 0, 1) := by decide +kernel
theorem dX7_think_69 : decode cX7_think 69 = .ok (.getfield 67, 3) := by decide +kernel
theorem dX7_think_72 : decode cX7_think 72 = .ok (.if_icmp .ge 21, 3) := by decide +kernel
theorem dX7_think_75 : decode cX7_think 75 = .ok (.lload 4, 2) := by decide +kernel
theorem dX7_think_77 : decode cX7_think 77 = .ok (.aload_n 0, 1) := by decide +kernel
theorem dX7_think_78 : decode cX7_think 78 = .ok (.getfield 52, 3) := by decide +kernel
theorem dX7_think_81 : decode cX7_think 81 = .ok (.iload 6, 2) := by decide +kernel
theorem dX7_think_83 : decode cX7_think 83 = .ok (.laload, 1) := by decide +kernel
theorem dX7_think_84 : decode cX7_think 84 = .ok (.ladd, 1) := by decide +kernel
theorem dX7_think_85 : decode cX7_think 85 = .ok (.lstore 4, 2) := by decide +kernel
theorem dX7_think_87 : decode cX7_think 87 = .ok (.iinc 6 1, 3) := by decide +kernel
theorem dX7_think_90 : decode cX7_think 90 = .ok (.goto (-24), 3) := by decide +kernel
theorem dX7_think_93 : decode cX7_think 93 = .ok (.lload 4, 2) := by decide +kernel
theorem dX7_think_95 : decode cX7_think 95 = .ok (.lconst 0, 1) := by decide +kernel
theorem dX7_think_96 : decode cX7_think 96 = .ok (.lcmp, 1) := by decide +kernel
theorem dX7_think_97 : decode cX7_think 97 = .ok (.ifCond .le 20, 3) := by decide +kernel
theorem dX7_think_100 : decode cX7_think 100 = .ok (.ldc2_w 279, 3) := by decide +kernel
theorem dX7_think_103 : decode cX7_think 103 = .ok (.aload_n 0, 1) := by decide +kernel
theorem dX7_think_104 : decode cX7_think 104 = .ok (.getfield 52, 3) := by decide +kernel
theorem dX7_think_107 : decode cX7_think 107 = .ok (.iload_n 1, 1) := by decide +kernel
theorem dX7_think_108 : decode cX7_think 108 = .ok (.laload, 1) := by decide +kernel
theorem dX7_think_109 : decode cX7_think 109 = .ok (.lmul, 1) := by decide +kernel
theorem dX7_think_110 : decode cX7_think 110 = .ok (.lload 4, 2) := by decide +kernel
theorem dX7_think_112 : decode cX7_think 112 = .ok (.ldiv, 1) := by decide +kernel
theorem dX7_think_113 : decode cX7_think 113 = .ok (.l2i, 1) := by decide +kernel
theorem dX7_think_114 : decode cX7_think 114 = .ok (.goto 4, 3) := by decide +kernel
theorem dX7_think_117 : decode cX7_think 117 = .ok (.iconst 0, 1) := by decide +kernel
theorem dX7_think_118 : decode cX7_think 118 = .ok (.ireturn, 1) := by decide +kernel
theorem dX7_buy_0 : decode cX7_buy 0 = .ok (.aload_n 0, 1) := by decide +kernel
theorem dX7_buy_1 : decode cX7_buy 1 = .ok (.iload_n 1, 1) := by decide +kernel
theorem dX7_buy_2 : decode cX7_buy 2 = .ok (.invokevirtual 152, 3) := by decide +kernel
theorem dX7_buy_5 : decode cX7_buy 5 = .ok (.ifCond .eq 13, 3) := by decide +kernel
theorem dX7_buy_8 : decode cX7_buy 8 = .ok (.aload_n 0, 1) := by decide +kernel
theorem dX7_buy_9 : decode cX7_buy 9 = .ok (.iload_n 2, 1) := by decide +kernel
theorem dX7_buy_10 : decode cX7_buy 10 = .ok (.iload 5, 2) := by decide +kernel
theorem dX7_buy_12 : decode cX7_buy 12 = .ok (.invokevirtual 140, 3) := by decide +kernel
theorem dX7_buy_15 : decode cX7_buy 15 = .ok (.ifCond .ne 6, 3) := by decide +kernel
theorem dX7_buy_18 : decode cX7_buy 18 = .ok (.ldc 99, 2) := by decide +kernel
theorem dX7_buy_20 : decode cX7_buy 20 = .ok (.ireturn, 1) := by decide +kernel
theorem dX7_buy_21 : decode cX7_buy 21 = .ok (.iload_n 3, 1) := by decide +kernel
theorem dX7_buy_22 : decode cX7_buy 22 = .ok (.iload 4, 2) := by decide +kernel
theorem dX7_buy_24 : decode cX7_buy 24 = .ok (.invokestatic 184, 3) := by decide +kernel
theorem dX7_buy_27 : decode cX7_buy 27 = .ok (.ifCond .ne 13, 3) := by decide +kernel
theorem dX7_buy_30 : decode cX7_buy 30 = .ok (.iload 6, 2) := by decide +kernel
theorem dX7_buy_32 : decode cX7_buy 32 = .ok (.iconst 1, 1) := by decide +kernel
theorem dX7_buy_33 : decode cX7_buy 33 = .ok (.iconst 3, 1) := by decide +kernel
theorem dX7_buy_34 : decode cX7_buy 34 = .ok (.invokestatic 86, 3) := by decide +kernel
theorem dX7_buy_37 : decode cX7_buy 37 = .ok (.ifCond .eq 6, 3) := by decide +kernel
theorem dX7_buy_40 : decode cX7_buy 40 = .ok (.ldc 90, 2) := by decide +kernel
theorem dX7_buy_42 : decode cX7_buy 42 = .ok (.ireturn, 1) := by decide +kernel
theorem dX7_buy_43 : decode cX7_buy 43 = .ok (.aload_n 0, 1) := by decide +kernel
theorem dX7_buy_44 : decode cX7_buy 44 = .ok (.iload_n 1, 1) := by decide +kernel
theorem dX7_buy_45 : decode cX7_buy 45 = .ok (.iload_n 2, 1) := by decide +kernel
theorem dX7_buy_46 : decode cX7_buy 46 = .ok (.iload_n 3, 1) := by decide +kernel
theorem dX7_buy_47 : decode cX7_buy 47 = .ok (.invokevirtual 177, 3) := by decide +kernel
theorem dX7_buy_50 : decode cX7_buy 50 = .ok (.astore 7, 2) := by decide +kernel
theorem dX7_buy_52 : decode cX7_buy 52 = .ok (.iload_n 3, 1) := by decide +kernel
theorem dX7_buy_53 : decode cX7_buy 53 = .ok (.iload 4, 2) := by decide +kernel
theorem dX7_buy_55 : decode cX7_buy 55 = .ok (.isub, 1) := by decide +kernel
theorem dX7_buy_56 : decode cX7_buy 56 = .ok (.iconst 1, 1) := by decide +kernel
theorem dX7_buy_57 : decode cX7_buy 57 = .ok (.isub, 1) := by decide +kernel
theorem dX7_buy_58 : decode cX7_buy 58 = .ok (.istore 8, 2) := by decide +kernel
theorem dX7_buy_60 : decode cX7_buy 60 = .ok (.aload 7, 2) := by decide +kernel
theorem dX7_buy_62 : decode cX7_buy 62 = .ok (.iload 8, 2) := by decide +kernel
theorem dX7_buy_64 : decode cX7_buy 64 = .ok (.aload_n 0, 1) := by decide +kernel
theorem dX7_buy_65 : decode cX7_buy 65 = .ok (.getfield 18, 3) := by decide +kernel
theorem dX7_buy_68 : decode cX7_buy 68 = .ok (.iload_n 2, 1) := by decide +kernel
theorem dX7_buy_69 : decode cX7_buy 69 = .ok (.aaload, 1) := by decide +kernel
theorem dX7_buy_70 : decode cX7_buy 70 = .ok (.iload 5, 2) := by decide +kernel
theorem dX7_buy_72 : decode cX7_buy 72 = .ok (.iload 6, 2) := by decide +kernel
theorem dX7_buy_74 : decode cX7_buy 74 = .ok (.invokevirtual 148, 3) := by decide +kernel
theorem dX7_buy_77 : decode cX7_buy 77 = .ok (.invokevirtual 181, 3) := by decide +kernel
theorem dX7_buy_80 : decode cX7_buy 80 = .ok (.aload 7, 2) := by decide +kernel
theorem dX7_buy_82 : decode cX7_buy 82 = .ok (.iload 8, 2) := by decide +kernel
theorem dX7_buy_84 : decode cX7_buy 84 = .ok (.aload_n 0, 1) := by decide +kernel
theorem dX7_buy_85 : decode cX7_buy 85 = .ok (.getfield 18, 3) := by decide +kernel
theorem dX7_buy_88 : decode cX7_buy 88 = .ok (.iload_n 2, 1) := by decide +kernel
theorem dX7_buy_89 : decode cX7_buy 89 = .ok (.aaload, 1) := by decide +kernel
theorem dX7_buy_90 : decode cX7_buy 90 = .ok (.iload 5, 2) := by decide +kernel
theorem dX7_buy_92 : decode cX7_buy 92 = .ok (.iload 6, 2) := by decide +kernel
theorem dX7_buy_94 : decode cX7_buy 94 = .ok (.iconst 1, 1) := by decide +kernel
theorem dX7_buy_95 : decode cX7_buy 95 = .ok (.isub, 1) := by decide +kernel
theorem dX7_buy_96 : decode cX7_buy 96 = .ok (.invokevirtual 148, 3) := by decide +kernel
theorem dX7_buy_99 : decode cX7_buy 99 = .ok (.invokevirtual 181, 3) := by decide +kernel
theorem dX7_buy_102 : decode cX7_buy 102 = .ok (.isub, 1) := by decide +kernel
theorem dX7_buy_103 : decode cX7_buy 103 = .ok (.ireturn, 1) := by decide +kernel
theorem dX7_keepRung_0 : decode cX7_keepRung 0 = .ok (.aload_n 0, 1) := by decide +kernel
theorem dX7_keepRung_1 : decode cX7_keepRung 1 = .ok (.iload_n 1, 1) := by decide +kernel
theorem dX7_keepRung_2 : decode cX7_keepRung 2 = .ok (.invokevirtual 152, 3) := by decide +kernel
theorem dX7_keepRung_5 : decode cX7_keepRung 5 = .ok (.ifCond .eq 13, 3) := by decide +kernel
theorem dX7_keepRung_8 : decode cX7_keepRung 8 = .ok (.aload_n 0, 1) := by decide +kernel
theorem dX7_keepRung_9 : decode cX7_keepRung 9 = .ok (.iload_n 2, 1) := by decide +kernel
theorem dX7_keepRung_10 : decode cX7_keepRung 10 = .ok (.iload 4, 2) := by decide +kernel
theorem dX7_keepRung_12 : decode cX7_keepRung 12 = .ok (.invokevirtual 140, 3) := by decide +kernel
theorem dX7_keepRung_15 : decode cX7_keepRung 15 = .ok (.ifCond .ne 6, 3) := by decide +kernel
theorem dX7_keepRung_18 : decode cX7_keepRung 18 = .ok (.ldc 99, 2) := by decide +kernel
theorem dX7_keepRung_20 : decode cX7_keepRung 20 = .ok (.ireturn, 1) := by decide +kernel
theorem dX7_keepRung_21 : decode cX7_keepRung 21 = .ok (.iload_n 3, 1) := by decide +kernel
theorem dX7_keepRung_22 : decode cX7_keepRung 22 = .ok (.iconst 1, 1) := by decide +kernel
theorem dX7_keepRung_23 : decode cX7_keepRung 23 = .ok (.bipush 30, 2) := by decide +kernel
theorem dX7_keepRung_25 : decode cX7_keepRung 25 = .ok (.invokestatic 86, 3) := by decide +kernel
theorem dX7_keepRung_28 : decode cX7_keepRung 28 = .ok (.ifCond .eq 6, 3) := by decide +kernel
theorem dX7_keepRung_31 : decode cX7_keepRung 31 = .ok (.ldc 90, 2) := by decide +kernel
theorem dX7_keepRung_33 : decode cX7_keepRung 33 = .ok (.ireturn, 1) := by decide +kernel
theorem dX7_keepRung_34 : decode cX7_keepRung 34 = .ok (.aload_n 0, 1) := by decide +kernel
theorem dX7_keepRung_35 : decode cX7_keepRung 35 = .ok (.getfield 18, 3) := by decide +kernel
theorem dX7_keepRung_38 : decode cX7_keepRung 38 = .ok (.iload_n 2, 1) := by decide +kernel
theorem dX7_keepRung_39 : decode cX7_keepRung 39 = .ok (.aaload, 1) := by decide +kernel
theorem dX7_keepRung_40 : decode cX7_keepRung 40 = .ok (.iload 4, 2) := by decide +kernel
theorem dX7_keepRung_42 : decode cX7_keepRung 42 = .ok (.invokevirtual 281, 3) := by decide +kernel
theorem dX7_keepRung_45 : decode cX7_keepRung 45 = .ok (.ifCond .eq 5, 3) := by decide +kernel
theorem dX7_keepRung_48 : decode cX7_keepRung 48 = .ok (.iconst 0, 1) := by decide +kernel
theorem dX7_keepRung_49 : decode cX7_keepRung 49 = .ok (.ireturn, 1) := by decide +kernel
theorem dX7_keepRung_50 : decode cX7_keepRung 50 = .ok (.aload_n 0, 1) := by decide +kernel
theorem dX7_keepRung_51 : decode cX7_keepRung 51 = .ok (.getfield 41, 3) := by decide +kernel
theorem dX7_keepRung_54 : decode cX7_keepRung 54 = .ok (.aload_n 0, 1) := by decide +kernel
theorem dX7_keepRung_55 : decode cX7_keepRung 55 = .ok (.getfield 18, 3) := by decide +kernel
theorem dX7_keepRung_58 : decode cX7_keepRung 58 = .ok (.iload_n 2, 1) := by decide +kernel
theorem dX7_keepRung_59 : decode cX7_keepRung 59 = .ok (.aaload, 1) := by decide +kernel
theorem dX7_keepRung_60 : decode cX7_keepRung 60 = .ok (.invokevirtual 111, 3) := by decide +kernel
theorem dX7_keepRung_63 : decode cX7_keepRung 63 = .ok (.aload_n 0, 1) := by decide +kernel
theorem dX7_keepRung_64 : decode cX7_keepRung 64 = .ok (.getfield 41, 3) := by decide +kernel
theorem dX7_keepRung_67 : decode cX7_keepRung 67 = .ok (.aload_n 0, 1) := by decide +kernel
theorem dX7_keepRung_68 : decode cX7_keepRung 68 = .ok (.getfield 41, 3) := by decide +kernel
theorem dX7_keepRung_71 : decode cX7_keepRung 71 = .ok (.getfield 137, 3) := by decide +kernel
theorem dX7_keepRung_74 : decode cX7_keepRung 74 = .ok (.iconst 1, 1) := by decide +kernel
theorem dX7_keepRung_75 : decode cX7_keepRung 75 = .ok (.iload 4, 2) := by decide +kernel
theorem dX7_keepRung_77 : decode cX7_keepRung 77 = .ok (.ishl, 1) := by decide +kernel
theorem dX7_keepRung_78 : decode cX7_keepRung 78 = .ok (.ior, 1) := by decide +kernel
theorem dX7_keepRung_79 : decode cX7_keepRung 79 = .ok (.putfield 137, 3) := by decide +kernel
theorem dX7_keepRung_82 : decode cX7_keepRung 82 = .ok (.aload_n 0, 1) := by decide +kernel
theorem dX7_keepRung_83 : decode cX7_keepRung 83 = .ok (.getfield 81, 3) := by decide +kernel
theorem dX7_keepRung_86 : decode cX7_keepRung 86 = .ok (.aload_n 0, 1) := by decide +kernel
theorem dX7_keepRung_87 : decode cX7_keepRung 87 = .ok (.getfield 24, 3) := by decide +kernel
theorem dX7_keepRung_90 : decode cX7_keepRung 90 = .ok (.iload_n 1, 1) := by decide +kernel
theorem dX7_keepRung_91 : decode cX7_keepRung 91 = .ok (.aaload, 1) := by decide +kernel
theorem dX7_keepRung_92 : decode cX7_keepRung 92 = .ok (.aload_n 0, 1) := by decide +kernel
theorem dX7_keepRung_93 : decode cX7_keepRung 93 = .ok (.getfield 41, 3) := by decide +kernel
theorem dX7_keepRung_96 : decode cX7_keepRung 96 = .ok (.aconst_null, 1) := by decide +kernel
theorem dX7_keepRung_97 : decode cX7_keepRung 97 = .ok (.invokevirtual 203, 3) := by decide +kernel
theorem dX7_keepRung_100 : decode cX7_keepRung 100 = .ok (.aload_n 0, 1) := by decide +kernel
theorem dX7_keepRung_101 : decode cX7_keepRung 101 = .ok (.getfield 81, 3) := by decide +kernel
theorem dX7_keepRung_104 : decode cX7_keepRung 104 = .ok (.iload_n 3, 1) := by decide +kernel
theorem dX7_keepRung_105 : decode cX7_keepRung 105 = .ok (.invokevirtual 207, 3) := by decide +kernel
theorem dX7_keepRung_108 : decode cX7_keepRung 108 = .ok (.aload_n 0, 1) := by decide +kernel
theorem dX7_keepRung_109 : decode cX7_keepRung 109 = .ok (.iload_n 1, 1) := by decide +kernel
theorem dX7_keepRung_110 : decode cX7_keepRung 110 = .ok (.iload_n 2, 1) := by decide +kernel
theorem dX7_keepRung_111 : decode cX7_keepRung 111 = .ok (.iload_n 3, 1) := by decide +kernel
theorem dX7_keepRung_112 : decode cX7_keepRung 112 = .ok (.invokevirtual 177, 3) := by decide +kernel
theorem dX7_keepRung_115 : decode cX7_keepRung 115 = .ok (.iload_n 3, 1) := by decide +kernel
theorem dX7_keepRung_116 : decode cX7_keepRung 116 = .ok (.iload 4, 2) := by decide +kernel
theorem dX7_keepRung_118 : decode cX7_keepRung 118 = .ok (.invokevirtual 181, 3) := by decide +kernel
theorem dX7_keepRung_121 : decode cX7_keepRung 121 = .ok (.aload_n 0, 1) := by decide +kernel
theorem dX7_keepRung_122 : decode cX7_keepRung 122 = .ok (.getfield 81, 3) := by decide +kernel
theorem dX7_keepRung_125 : decode cX7_keepRung 125 = .ok (.iload_n 3, 1) := by decide +kernel
theorem dX7_keepRung_126 : decode cX7_keepRung 126 = .ok (.iload 4, 2) := by decide +kernel
theorem dX7_keepRung_128 : decode cX7_keepRung 128 = .ok (.invokevirtual 181, 3) := by decide +kernel
theorem dX7_keepRung_131 : decode cX7_keepRung 131 = .ok (.isub, 1) := by decide +kernel
theorem dX7_keepRung_132 : decode cX7_keepRung 132 = .ok (.ireturn, 1) := by decide +kernel
theorem dX7_leave_0 : decode cX7_leave 0 = .ok (.aload_n 0, 1) := by decide +kernel
theorem dX7_leave_1 : decode cX7_leave 1 = .ok (.iload_n 1, 1) := by decide +kernel
theorem dX7_leave_2 : decode cX7_leave 2 = .ok (.invokevirtual 152, 3) := by decide +kernel
theorem dX7_leave_5 : decode cX7_leave 5 = .ok (.ifCond .eq 23, 3) := by decide +kernel
theorem dX7_leave_8 : decode cX7_leave 8 = .ok (.aload_n 0, 1) := by decide +kernel
theorem dX7_leave_9 : decode cX7_leave 9 = .ok (.iload_n 2, 1) := by decide +kernel
theorem dX7_leave_10 : decode cX7_leave 10 = .ok (.iload 4, 2) := by decide +kernel
theorem dX7_leave_12 : decode cX7_leave 12 = .ok (.invokevirtual 140, 3) := by decide +kernel
theorem dX7_leave_15 : decode cX7_leave 15 = .ok (.ifCond .eq 13, 3) := by decide +kernel
theorem dX7_leave_18 : decode cX7_leave 18 = .ok (.aload_n 0, 1) := by decide +kernel
theorem dX7_leave_19 : decode cX7_leave 19 = .ok (.iconst 1, 1) := by decide +kernel
theorem dX7_leave_20 : decode cX7_leave 20 = .ok (.iload_n 2, 1) := by decide +kernel
theorem dX7_leave_21 : decode cX7_leave 21 = .ok (.isub, 1) := by decide +kernel
theorem dX7_leave_22 : decode cX7_leave 22 = .ok (.invokevirtual 121, 3) := by decide +kernel
theorem dX7_leave_25 : decode cX7_leave 25 = .ok (.ifCond .ne 6, 3) := by decide +kernel
theorem dX7_leave_28 : decode cX7_leave 28 = .ok (.ldc 99, 2) := by decide +kernel
theorem dX7_leave_30 : decode cX7_leave 30 = .ok (.ireturn, 1) := by decide +kernel
theorem dX7_leave_31 : decode cX7_leave 31 = .ok (.iload_n 3, 1) := by decide +kernel
theorem dX7_leave_32 : decode cX7_leave 32 = .ok (.iconst 1, 1) := by decide +kernel
theorem dX7_leave_33 : decode cX7_leave 33 = .ok (.bipush 30, 2) := by decide +kernel
theorem dX7_leave_35 : decode cX7_leave 35 = .ok (.invokestatic 86, 3) := by decide +kernel
theorem dX7_leave_38 : decode cX7_leave 38 = .ok (.ifCond .eq 6, 3) := by decide +kernel
theorem dX7_leave_41 : decode cX7_leave 41 = .ok (.ldc 90, 2) := by decide +kernel
theorem dX7_leave_43 : decode cX7_leave 43 = .ok (.ireturn, 1) := by decide +kernel
theorem dX7_leave_44 : decode cX7_leave 44 = .ok (.iload 4, 2) := by decide +kernel
theorem dX7_leave_46 : decode cX7_leave 46 = .ok (.aload_n 0, 1) := by decide +kernel
theorem dX7_leave_47 : decode cX7_leave 47 = .ok (.getfield 18, 3) := by decide +kernel
theorem dX7_leave_50 : decode cX7_leave 50 = .ok (.iconst 1, 1) := by decide +kernel
theorem dX7_leave_51 : decode cX7_leave 51 = .ok (.iload_n 2, 1) := by decide +kernel
theorem dX7_leave_52 : decode cX7_leave 52 = .ok (.isub, 1) := by decide +kernel
theorem dX7_leave_53 : decode cX7_leave 53 = .ok (.aaload, 1) := by decide +kernel
theorem dX7_leave_54 : decode cX7_leave 54 = .ok (.getfield 134, 3) := by decide +kernel
theorem dX7_leave_57 : decode cX7_leave 57 = .ok (.invokestatic 284, 3) := by decide +kernel
theorem dX7_leave_60 : decode cX7_leave 60 = .ok (.istore 5, 2) := by decide +kernel
theorem dX7_leave_62 : decode cX7_leave 62 = .ok (.aload_n 0, 1) := by decide +kernel
theorem dX7_leave_63 : decode cX7_leave 63 = .ok (.iload_n 1, 1) := by decide +kernel
theorem dX7_leave_64 : decode cX7_leave 64 = .ok (.iconst 1, 1) := by decide +kernel
theorem dX7_leave_65 : decode cX7_leave 65 = .ok (.iload_n 2, 1) := by decide +kernel
theorem dX7_leave_66 : decode cX7_leave 66 = .ok (.isub, 1) := by decide +kernel
theorem dX7_leave_67 : decode cX7_leave 67 = .ok (.iload_n 3, 1) := by decide +kernel
theorem dX7_leave_68 : decode cX7_leave 68 = .ok (.invokevirtual 177, 3) := by decide +kernel
theorem dX7_leave_71 : decode cX7_leave 71 = .ok (.iload_n 3, 1) := by decide +kernel
theorem dX7_leave_72 : decode cX7_leave 72 = .ok (.iload 5, 2) := by decide +kernel
theorem dX7_leave_74 : decode cX7_leave 74 = .ok (.invokevirtual 181, 3) := by decide +kernel
theorem dX7_leave_77 : decode cX7_leave 77 = .ok (.aload_n 0, 1) := by decide +kernel
theorem dX7_leave_78 : decode cX7_leave 78 = .ok (.iload_n 1, 1) := by decide +kernel
theorem dX7_leave_79 : decode cX7_leave 79 = .ok (.iload_n 2, 1) := by decide +kernel
theorem dX7_leave_80 : decode cX7_leave 80 = .ok (.iload_n 3, 1) := by decide +kernel
theorem dX7_leave_81 : decode cX7_leave 81 = .ok (.invokevirtual 177, 3) := by decide +kernel
theorem dX7_leave_84 : decode cX7_leave 84 = .ok (.iload_n 3, 1) := by decide +kernel
theorem dX7_leave_85 : decode cX7_leave 85 = .ok (.iload 4, 2) := by decide +kernel
theorem dX7_leave_87 : decode cX7_leave 87 = .ok (.invokevirtual 181, 3) := by decide +kernel
theorem dX7_leave_90 : decode cX7_leave 90 = .ok (.if_icmp .ge 7, 3) := by decide +kernel
theorem dX7_leave_93 : decode cX7_leave 93 = .ok (.iconst 1, 1) := by decide +kernel
theorem dX7_leave_94 : decode cX7_leave 94 = .ok (.goto 4, 3) := by decide +kernel
theorem dX7_leave_97 : decode cX7_leave 97 = .ok (.iconst 0, 1) := by decide +kernel
theorem dX7_leave_98 : decode cX7_leave 98 = .ok (.ireturn, 1) := by decide +kernel
theorem dX7_pad_0 : decode cX7_pad 0 = .ok (.aload_n 0, 1) := by decide +kernel
theorem dX7_pad_1 : decode cX7_pad 1 = .ok (.iload_n 1, 1) := by decide +kernel
theorem dX7_pad_2 : decode cX7_pad 2 = .ok (.invokevirtual 152, 3) := by decide +kernel
theorem dX7_pad_5 : decode cX7_pad 5 = .ok (.ifCond .eq 13, 3) := by decide +kernel
theorem dX7_pad_8 : decode cX7_pad 8 = .ok (.aload_n 0, 1) := by decide +kernel
theorem dX7_pad_9 : decode cX7_pad 9 = .ok (.iload_n 2, 1) := by decide +kernel
theorem dX7_pad_10 : decode cX7_pad 10 = .ok (.iload 4, 2) := by decide +kernel
theorem dX7_pad_12 : decode cX7_pad 12 = .ok (.invokevirtual 140, 3) := by decide +kernel
theorem dX7_pad_15 : decode cX7_pad 15 = .ok (.ifCond .ne 6, 3) := by decide +kernel
theorem dX7_pad_18 : decode cX7_pad 18 = .ok (.ldc 99, 2) := by decide +kernel
theorem dX7_pad_20 : decode cX7_pad 20 = .ok (.ireturn, 1) := by decide +kernel
theorem dX7_pad_21 : decode cX7_pad 21 = .ok (.iload_n 3, 1) := by decide +kernel
theorem dX7_pad_22 : decode cX7_pad 22 = .ok (.iconst 1, 1) := by decide +kernel
theorem dX7_pad_23 : decode cX7_pad 23 = .ok (.bipush 30, 2) := by decide +kernel
theorem dX7_pad_25 : decode cX7_pad 25 = .ok (.invokestatic 86, 3) := by decide +kernel
theorem dX7_pad_28 : decode cX7_pad 28 = .ok (.ifCond .ne 24, 3) := by decide +kernel
theorem dX7_pad_31 : decode cX7_pad 31 = .ok (.iload 5, 2) := by decide +kernel
theorem dX7_pad_33 : decode cX7_pad 33 = .ok (.iconst 0, 1) := by decide +kernel
theorem dX7_pad_34 : decode cX7_pad 34 = .ok (.bipush 11, 2) := by decide +kernel
theorem dX7_pad_36 : decode cX7_pad 36 = .ok (.invokestatic 86, 3) := by decide +kernel
theorem dX7_pad_39 : decode cX7_pad 39 = .ok (.ifCond .ne 13, 3) := by decide +kernel
theorem dX7_pad_42 : decode cX7_pad 42 = .ok (.iload 6, 2) := by decide +kernel
theorem dX7_pad_44 : decode cX7_pad 44 = .ok (.iconst 0, 1) := by decide +kernel
theorem dX7_pad_45 : decode cX7_pad 45 = .ok (.iconst 3, 1) := by decide +kernel
theorem dX7_pad_46 : decode cX7_pad 46 = .ok (.invokestatic 86, 3) := by decide +kernel
theorem dX7_pad_49 : decode cX7_pad 49 = .ok (.ifCond .eq 6, 3) := by decide +kernel
theorem dX7_pad_52 : decode cX7_pad 52 = .ok (.ldc 90, 2) := by decide +kernel
theorem dX7_pad_54 : decode cX7_pad 54 = .ok (.ireturn, 1) := by decide +kernel
theorem dX7_pad_55 : decode cX7_pad 55 = .ok (.iload 7, 2) := by decide +kernel
theorem dX7_pad_57 : decode cX7_pad 57 = .ok (.iconst 1, 1) := by decide +kernel
theorem dX7_pad_58 : decode cX7_pad 58 = .ok (.sipush 999, 3) := by decide +kernel
theorem dX7_pad_61 : decode cX7_pad 61 = .ok (.invokestatic 86, 3) := by decide +kernel
theorem dX7_pad_64 : decode cX7_pad 64 = .ok (.ifCond .ne 26, 3) := by decide +kernel
theorem dX7_pad_67 : decode cX7_pad 67 = .ok (.iload 8, 2) := by decide +kernel
theorem dX7_pad_69 : decode cX7_pad 69 = .ok (.iconst 0, 1) := by decide +kernel
theorem dX7_pad_70 : decode cX7_pad 70 = .ok (.sipush 999, 3) := by decide +kernel
theorem dX7_pad_73 : decode cX7_pad 73 = .ok (.invokestatic 86, 3) := by decide +kernel
theorem dX7_pad_76 : decode cX7_pad 76 = .ok (.ifCond .ne 14, 3) := by decide +kernel
theorem dX7_pad_79 : decode cX7_pad 79 = .ok (.iload 9, 2) := by decide +kernel
theorem dX7_pad_81 : decode cX7_pad 81 = .ok (.iconst 0, 1) := by decide +kernel
theorem dX7_pad_82 : decode cX7_pad 82 = .ok (.bipush 100, 2) := by decide +kernel
theorem dX7_pad_84 : decode cX7_pad 84 = .ok (.invokestatic 86, 3) := by decide +kernel
theorem dX7_pad_87 : decode cX7_pad 87 = .ok (.ifCond .eq 6, 3) := by decide +kernel
theorem dX7_pad_90 : decode cX7_pad 90 = .ok (.ldc 90, 2) := by decide +kernel
theorem dX7_pad_92 : decode cX7_pad 92 = .ok (.ireturn, 1) := by decide +kernel
theorem dX7_pad_93 : decode cX7_pad 93 = .ok (.aload_n 0, 1) := by decide +kernel
theorem dX7_pad_94 : decode cX7_pad 94 = .ok (.iload_n 1, 1) := by decide +kernel
theorem dX7_pad_95 : decode cX7_pad 95 = .ok (.iload_n 2, 1) := by decide +kernel
theorem dX7_pad_96 : decode cX7_pad 96 = .ok (.iload_n 3, 1) := by decide +kernel
theorem dX7_pad_97 : decode cX7_pad 97 = .ok (.invokevirtual 177, 3) := by decide +kernel
theorem dX7_pad_100 : decode cX7_pad 100 = .ok (.astore 10, 2) := by decide +kernel
theorem dX7_pad_102 : decode cX7_pad 102 = .ok (.aload 10, 2) := by decide +kernel
theorem dX7_pad_104 : decode cX7_pad 104 = .ok (.iload_n 3, 1) := by decide +kernel
theorem dX7_pad_105 : decode cX7_pad 105 = .ok (.iload 4, 2) := by decide +kernel
theorem dX7_pad_107 : decode cX7_pad 107 = .ok (.iconst 0, 1) := by decide +kernel
theorem dX7_pad_108 : decode cX7_pad 108 = .ok (.invokevirtual 187, 3) := by decide +kernel
theorem dX7_pad_111 : decode cX7_pad 111 = .ok (.aload_n 0, 1) := by decide +kernel
theorem dX7_pad_112 : decode cX7_pad 112 = .ok (.getfield 18, 3) := by decide +kernel
theorem dX7_pad_115 : decode cX7_pad 115 = .ok (.iload_n 2, 1) := by decide +kernel
theorem dX7_pad_116 : decode cX7_pad 116 = .ok (.aaload, 1) := by decide +kernel
theorem dX7_pad_117 : decode cX7_pad 117 = .ok (.iload 7, 2) := by decide +kernel
theorem dX7_pad_119 : decode cX7_pad 119 = .ok (.invokevirtual 289, 3) := by decide +kernel
theorem dX7_pad_122 : decode cX7_pad 122 = .ok (.sipush 1000, 3) := by decide +kernel
theorem dX7_pad_125 : decode cX7_pad 125 = .ok (.imul, 1) := by decide +kernel
theorem dX7_pad_126 : decode cX7_pad 126 = .ok (.aload 10, 2) := by decide +kernel
theorem dX7_pad_128 : decode cX7_pad 128 = .ok (.iload 5, 2) := by decide +kernel
theorem dX7_pad_130 : decode cX7_pad 130 = .ok (.iconst 1, 1) := by decide +kernel
theorem dX7_pad_131 : decode cX7_pad 131 = .ok (.iadd, 1) := by decide +kernel
theorem dX7_pad_132 : decode cX7_pad 132 = .ok (.iload 6, 2) := by decide +kernel
theorem dX7_pad_134 : decode cX7_pad 134 = .ok (.invokestatic 230, 3) := by decide +kernel
theorem dX7_pad_137 : decode cX7_pad 137 = .ok (.invokevirtual 191, 3) := by decide +kernel
theorem dX7_pad_140 : decode cX7_pad 140 = .ok (.iadd, 1) := by decide +kernel
theorem dX7_pad_141 : decode cX7_pad 141 = .ok (.i2l, 1) := by decide +kernel
theorem dX7_pad_142 : decode cX7_pad 142 = .ok (.lstore 11, 2) := by decide +kernel
theorem dX7_pad_144 : decode cX7_pad 144 = .ok (.iload 7, 2) := by decide +kernel
theorem dX7_pad_146 : decode cX7_pad 146 = .ok (.sipush 1000, 3) := by decide +kernel
theorem dX7_pad_149 : decode cX7_pad 149 = .ok (.imul, 1) := by decide +kernel
theorem dX7_pad_150 : decode cX7_pad 150 = .ok (.aload 10, 2) := by decide +kernel
theorem dX7_pad_152 : decode cX7_pad 152 = .ok (.iload 5, 2) := by decide +kernel
theorem dX7_pad_154 : decode cX7_pad 154 = .ok (.iconst 1, 1) := by decide +kernel
theorem dX7_pad_155 : decode cX7_pad 155 = .ok (.iadd, 1) := by decide +kernel
theorem dX7_pad_156 : decode cX7_pad 156 = .ok (.iconst 3, 1) := by decide +kernel
theorem dX7_pad_157 : decode cX7_pad 157 = .ok (.invokevirtual 191, 3) := by decide +kernel
theorem dX7_pad_160 : decode cX7_pad 160 = .ok (.iadd, 1) := by decide +kernel
theorem dX7_pad_161 : decode cX7_pad 161 = .ok (.i2l, 1) := by decide +kernel
theorem dX7_pad_162 : decode cX7_pad 162 = .ok (.lstore 13, 2) := by decide +kernel
theorem dX7_pad_164 : decode cX7_pad 164 = .ok (.ldc2_w 279, 3) := by decide +kernel
theorem dX7_pad_167 : decode cX7_pad 167 = .ok (.iload 9, 2) := by decide +kernel
theorem dX7_pad_169 : decode cX7_pad 169 = .ok (.i2l, 1) := by decide +kernel
theorem dX7_pad_170 : decode cX7_pad 170 = .ok (.lsub, 1) := by decide +kernel
theorem dX7_pad_171 : decode cX7_pad 171 = .ok (.iload 8, 2) := by decide +kernel
theorem dX7_pad_173 : decode cX7_pad 173 = .ok (.i2l, 1) := by decide +kernel
theorem dX7_pad_174 : decode cX7_pad 174 = .ok (.lmul, 1) := by decide +kernel
theorem dX7_pad_175 : decode cX7_pad 175 = .ok (.ldc2_w 292, 3) := by decide +kernel
theorem dX7_pad_178 : decode cX7_pad 178 = .ok (.lmul, 1) := by decide +kernel
theorem dX7_pad_179 : decode cX7_pad 179 = .ok (.iload 9, 2) := by decide +kernel
theorem dX7_pad_181 : decode cX7_pad 181 = .ok (.i2l, 1) := by decide +kernel
theorem dX7_pad_182 : decode cX7_pad 182 = .ok (.lload 13, 2) := by decide +kernel
theorem dX7_pad_184 : decode cX7_pad 184 = .ok (.lload 11, 2) := by decide +kernel
theorem dX7_pad_186 : decode cX7_pad 186 = .ok (.lsub, 1) := by decide +kernel
theorem dX7_pad_187 : decode cX7_pad 187 = .ok (.lmul, 1) := by decide +kernel
theorem dX7_pad_188 : decode cX7_pad 188 = .ok (.lsub, 1) := by decide +kernel
theorem dX7_pad_189 : decode cX7_pad 189 = .ok (.ldc2_w 279, 3) := by decide +kernel
theorem dX7_pad_192 : decode cX7_pad 192 = .ok (.ldiv, 1) := by decide +kernel
theorem dX7_pad_193 : decode cX7_pad 193 = .ok (.l2i, 1) := by decide +kernel
theorem dX7_pad_194 : decode cX7_pad 194 = .ok (.ireturn, 1) := by decide +kernel
theorem dX7_setting_0 : decode cX7_setting 0 = .ok (.aload_n 0, 1) := by decide +kernel
theorem dX7_setting_1 : decode cX7_setting 1 = .ok (.iload_n 1, 1) := by decide +kernel
theorem dX7_setting_2 : decode cX7_setting 2 = .ok (.invokevirtual 121, 3) := by decide +kernel
theorem dX7_setting_5 : decode cX7_setting 5 = .ok (.ifCond .ne 6, 3) := by decide +kernel
theorem dX7_setting_8 : decode cX7_setting 8 = .ok (.ldc 99, 2) := by decide +kernel
theorem dX7_setting_10 : decode cX7_setting 10 = .ok (.ireturn, 1) := by decide +kernel
theorem dX7_setting_11 : decode cX7_setting 11 = .ok (.iload_n 2, 1) := by decide +kernel
theorem dX7_setting_12 : decode cX7_setting 12 = .ok (.iconst 1, 1) := by decide +kernel
theorem dX7_setting_13 : decode cX7_setting 13 = .ok (.bipush 12, 2) := by decide +kernel
theorem dX7_setting_15 : decode cX7_setting 15 = .ok (.invokestatic 86, 3) := by decide +kernel
theorem dX7_setting_18 : decode cX7_setting 18 = .ok (.ifCond .ne 16, 3) := by decide +kernel
theorem dX7_setting_21 : decode cX7_setting 21 = .ok (.iload_n 3, 1) := by decide +kernel
theorem dX7_setting_22 : decode cX7_setting 22 = .ok (.ldc_w 294, 3) := by decide +kernel
theorem dX7_setting_25 : decode cX7_setting 25 = .ok (.ldc_w 295, 3) := by decide +kernel
theorem dX7_setting_28 : decode cX7_setting 28 = .ok (.invokestatic 86, 3) := by decide +kernel
theorem dX7_setting_31 : decode cX7_setting 31 = .ok (.ifCond .eq 6, 3) := by decide +kernel
theorem dX7_setting_34 : decode cX7_setting 34 = .ok (.ldc 90, 2) := by decide +kernel
theorem dX7_setting_36 : decode cX7_setting 36 = .ok (.ireturn, 1) := by decide +kernel
theorem dX7_setting_37 : decode cX7_setting 37 = .ok (.aload_n 0, 1) := by decide +kernel
theorem dX7_setting_38 : decode cX7_setting 38 = .ok (.getfield 41, 3) := by decide +kernel
theorem dX7_setting_41 : decode cX7_setting 41 = .ok (.aload_n 0, 1) := by decide +kernel
theorem dX7_setting_42 : decode cX7_setting 42 = .ok (.getfield 18, 3) := by decide +kernel
theorem dX7_setting_45 : decode cX7_setting 45 = .ok (.iload_n 1, 1) := by decide +kernel
theorem dX7_setting_46 : decode cX7_setting 46 = .ok (.aaload, 1) := by decide +kernel
theorem dX7_setting_47 : decode cX7_setting 47 = .ok (.invokevirtual 111, 3) := by decide +kernel
theorem dX7_setting_50 : decode cX7_setting 50 = .ok (.iconst (-1), 1) := by decide +kernel
theorem dX7_setting_51 : decode cX7_setting 51 = .ok (.istore 4, 2) := by decide +kernel
theorem dX7_setting_53 : decode cX7_setting 53 = .ok (.iconst (-1), 1) := by decide +kernel
theorem dX7_setting_54 : decode cX7_setting 54 = .ok (.istore 5, 2) := by decide +kernel
theorem dX7_setting_56 : decode cX7_setting 56 = .ok (.iconst 0, 1) := by decide +kernel
theorem dX7_setting_57 : decode cX7_setting 57 = .ok (.istore 6, 2) := by decide +kernel
theorem dX7_setting_59 : decode cX7_setting 59 = .ok (.iload 6, 2) := by decide +kernel
theorem dX7_setting_61 : decode cX7_setting 61 = .ok (.bipush 36, 2) := by decide +kernel
theorem dX7_setting_63 : decode cX7_setting 63 = .ok (.if_icmp .ge 105, 3) := by decide +kernel
theorem dX7_setting_66 : decode cX7_setting 66 = .ok (.aload_n 0, 1) := by decide +kernel
theorem dX7_setting_67 : decode cX7_setting 67 = .ok (.getfield 41, 3) := by decide +kernel
theorem dX7_setting_70 : decode cX7_setting 70 = .ok (.iconst 1, 1) := by decide +kernel
theorem dX7_setting_71 : decode cX7_setting 71 = .ok (.iload 6, 2) := by decide +kernel
theorem dX7_setting_73 : decode cX7_setting 73 = .ok (.bipush 12, 2) := by decide +kernel
theorem dX7_setting_75 : decode cX7_setting 75 = .ok (.idiv, 1) := by decide +kernel
theorem dX7_setting_76 : decode cX7_setting 76 = .ok (.iadd, 1) := by decide +kernel
theorem dX7_setting_77 : decode cX7_setting 77 = .ok (.putfield 125, 3) := by decide +kernel
theorem dX7_setting_80 : decode cX7_setting 80 = .ok (.aload_n 0, 1) := by decide +kernel
theorem dX7_setting_81 : decode cX7_setting 81 = .ok (.getfield 41, 3) := by decide +kernel
theorem dX7_setting_84 : decode cX7_setting 84 = .ok (.iconst 1, 1) := by decide +kernel
theorem dX7_setting_85 : decode cX7_setting 85 = .ok (.iload 6, 2) := by decide +kernel
theorem dX7_setting_87 : decode cX7_setting 87 = .ok (.iconst 3, 1) := by decide +kernel
theorem dX7_setting_88 : decode cX7_setting 88 = .ok (.idiv, 1) := by decide +kernel
theorem dX7_setting_89 : decode cX7_setting 89 = .ok (.iconst 4, 1) := by decide +kernel
theorem dX7_setting_90 : decode cX7_setting 90 = .ok (.irem, 1) := by decide +kernel
theorem dX7_setting_91 : decode cX7_setting 91 = .ok (.iadd, 1) := by decide +kernel
theorem dX7_setting_92 : decode cX7_setting 92 = .ok (.putfield 128, 3) := by decide +kernel
theorem dX7_setting_95 : decode cX7_setting 95 = .ok (.aload_n 0, 1) := by decide +kernel
theorem dX7_setting_96 : decode cX7_setting 96 = .ok (.getfield 41, 3) := by decide +kernel
theorem dX7_setting_99 : decode cX7_setting 99 = .ok (.iload 6, 2) := by decide +kernel
theorem dX7_setting_101 : decode cX7_setting 101 = .ok (.iconst 3, 1) := by decide +kernel
theorem dX7_setting_102 : decode cX7_setting 102 = .ok (.irem, 1) := by decide +kernel
theorem dX7_setting_103 : decode cX7_setting 103 = .ok (.bipush 10, 2) := by decide +kernel
theorem dX7_setting_105 : decode cX7_setting 105 = .ok (.imul, 1) := by decide +kernel
theorem dX7_setting_106 : decode cX7_setting 106 = .ok (.putfield 131, 3) := by decide +kernel
theorem dX7_setting_109 : decode cX7_setting 109 = .ok (.aload_n 0, 1) := by decide +kernel
theorem dX7_setting_110 : decode cX7_setting 110 = .ok (.iload_n 2, 1) := by decide +kernel
theorem dX7_setting_111 : decode cX7_setting 111 = .ok (.iload_n 3, 1) := by decide +kernel
theorem dX7_setting_112 : decode cX7_setting 112 = .ok (.invokevirtual 296, 3) := by decide +kernel
theorem dX7_setting_115 : decode cX7_setting 115 = .ok (.istore 7, 2) := by decide +kernel
theorem dX7_setting_117 : decode cX7_setting 117 = .ok (.iload 7, 2) := by decide +kernel
theorem dX7_setting_119 : decode cX7_setting 119 = .ok (.iload 4, 2) := by decide +kernel
theorem dX7_setting_121 : decode cX7_setting 121 = .ok (.if_icmp .le 41, 3) := by decide +kernel
theorem dX7_setting_124 : decode cX7_setting 124 = .ok (.iload 7, 2) := by decide +kernel
theorem dX7_setting_126 : decode cX7_setting 126 = .ok (.istore 4, 2) := by decide +kernel
theorem dX7_setting_128 : decode cX7_setting 128 = .ok (.bipush 100, 2) := by decide +kernel
theorem dX7_setting_130 : decode cX7_setting 130 = .ok (.aload_n 0, 1) := by decide +kernel
theorem dX7_setting_131 : decode cX7_setting 131 = .ok (.getfield 41, 3) := by decide +kernel
theorem dX7_setting_134 : decode cX7_setting 134 = .ok (.getfield 125, 3) := by decide +kernel
theorem dX7_setting_137 : decode cX7_setting 137 = .ok (.imul, 1) := by decide +kernel
theorem dX7_setting_138 : decode cX7_setting 138 = .ok (.bipush 10, 2) := by decide +kernel
theorem dX7_setting_140 : decode cX7_setting 140 = .ok (.aload_n 0, 1) := by decide +kernel
theorem dX7_setting_141 : decode cX7_setting 141 = .ok (.getfield 41, 3) := by decide +kernel
theorem dX7_setting_144 : decode cX7_setting 144 = .ok (.getfield 128, 3) := by decide +kernel
theorem dX7_setting_147 : decode cX7_setting 147 = .ok (.imul, 1) := by decide +kernel
theorem dX7_setting_148 : decode cX7_setting 148 = .ok (.iadd, 1) := by decide +kernel
theorem dX7_setting_149 : decode cX7_setting 149 = .ok (.aload_n 0, 1) := by decide +kernel
theorem dX7_setting_150 : decode cX7_setting 150 = .ok (.getfield 41, 3) := by decide +kernel
theorem dX7_setting_153 : decode cX7_setting 153 = .ok (.getfield 131, 3) := by decide +kernel
theorem dX7_setting_156 : decode cX7_setting 156 = .ok (.bipush 10, 2) := by decide +kernel
theorem dX7_setting_158 : decode cX7_setting 158 = .ok (.idiv, 1) := by decide +kernel
theorem dX7_setting_159 : decode cX7_setting 159 = .ok (.iadd, 1) := by decide +kernel
theorem dX7_setting_160 : decode cX7_setting 160 = .ok (.istore 5, 2) := by decide +kernel
theorem dX7_setting_162 : decode cX7_setting 162 = .ok (.iinc 6 1, 3) := by decide +kernel
theorem dX7_setting_165 : decode cX7_setting 165 = .ok (.goto (-106), 3) := by decide +kernel
theorem dX7_setting_168 : decode cX7_setting 168 = .ok (.iload 5, 2) := by decide +kernel
theorem dX7_setting_170 : decode cX7_setting 170 = .ok (.ireturn, 1) := by decide +kernel
theorem dX7_seed_0 : decode cX7_seed 0 = .ok (.iload_n 1, 1) := by decide +kernel
theorem dX7_seed_1 : decode cX7_seed 1 = .ok (.ifCond .ge 6, 3) := by decide +kernel
theorem dX7_seed_4 : decode cX7_seed 4 = .ok (.ldc 90, 2) := by decide +kernel
theorem dX7_seed_6 : decode cX7_seed 6 = .ok (.ireturn, 1) := by decide +kernel
theorem dX7_seed_7 : decode cX7_seed 7 = .ok (.aload_n 0, 1) := by decide +kernel
theorem dX7_seed_8 : decode cX7_seed 8 = .ok (.getfield 59, 3) := by decide +kernel
theorem dX7_seed_11 : decode cX7_seed 11 = .ok (.getfield 299, 3) := by decide +kernel
theorem dX7_seed_14 : decode cX7_seed 14 = .ok (.istore_n 2, 1) := by decide +kernel
theorem dX7_seed_15 : decode cX7_seed 15 = .ok (.aload_n 0, 1) := by decide +kernel
theorem dX7_seed_16 : decode cX7_seed 16 = .ok (.getfield 59, 3) := by decide +kernel
theorem dX7_seed_19 : decode cX7_seed 19 = .ok (.iload_n 1, 1) := by decide +kernel
theorem dX7_seed_20 : decode cX7_seed 20 = .ok (.putfield 299, 3) := by decide +kernel
theorem dX7_seed_23 : decode cX7_seed 23 = .ok (.iload_n 2, 1) := by decide +kernel
theorem dX7_seed_24 : decode cX7_seed 24 = .ok (.ireturn, 1) := by decide +kernel
theorem dX7_lives_0 : decode cX7_lives 0 = .ok (.aload_n 0, 1) := by decide +kernel
theorem dX7_lives_1 : decode cX7_lives 1 = .ok (.iload_n 1, 1) := by decide +kernel
theorem dX7_lives_2 : decode cX7_lives 2 = .ok (.invokevirtual 152, 3) := by decide +kernel
theorem dX7_lives_5 : decode cX7_lives 5 = .ok (.ifCond .eq 19, 3) := by decide +kernel
theorem dX7_lives_8 : decode cX7_lives 8 = .ok (.aload_n 0, 1) := by decide +kernel
theorem dX7_lives_9 : decode cX7_lives 9 = .ok (.iload_n 2, 1) := by decide +kernel
theorem dX7_lives_10 : decode cX7_lives 10 = .ok (.invokevirtual 121, 3) := by decide +kernel
theorem dX7_lives_13 : decode cX7_lives 13 = .ok (.ifCond .eq 11, 3) := by decide +kernel
theorem dX7_lives_16 : decode cX7_lives 16 = .ok (.aload_n 0, 1) := by decide +kernel
theorem dX7_lives_17 : decode cX7_lives 17 = .ok (.iload_n 3, 1) := by decide +kernel
theorem dX7_lives_18 : decode cX7_lives 18 = .ok (.invokevirtual 200, 3) := by decide +kernel
theorem dX7_lives_21 : decode cX7_lives 21 = .ok (.ifCond .ne 6, 3) := by decide +kernel
theorem dX7_lives_24 : decode cX7_lives 24 = .ok (.ldc 99, 2) := by decide +kernel
theorem dX7_lives_26 : decode cX7_lives 26 = .ok (.ireturn, 1) := by decide +kernel
theorem dX7_lives_27 : decode cX7_lives 27 = .ok (.iload 4, 2) := by decide +kernel
theorem dX7_lives_29 : decode cX7_lives 29 = .ok (.iconst 1, 1) := by decide +kernel
theorem dX7_lives_30 : decode cX7_lives 30 = .ok (.bipush 30, 2) := by decide +kernel
theorem dX7_lives_32 : decode cX7_lives 32 = .ok (.invokestatic 86, 3) := by decide +kernel
theorem dX7_lives_35 : decode cX7_lives 35 = .ok (.ifCond .eq 6, 3) := by decide +kernel
theorem dX7_lives_38 : decode cX7_lives 38 = .ok (.ldc 90, 2) := by decide +kernel
theorem dX7_lives_40 : decode cX7_lives 40 = .ok (.ireturn, 1) := by decide +kernel
theorem dX7_lives_41 : decode cX7_lives 41 = .ok (.aload_n 0, 1) := by decide +kernel
theorem dX7_lives_42 : decode cX7_lives 42 = .ok (.getfield 18, 3) := by decide +kernel
theorem dX7_lives_45 : decode cX7_lives 45 = .ok (.iload_n 2, 1) := by decide +kernel
theorem dX7_lives_46 : decode cX7_lives 46 = .ok (.aaload, 1) := by decide +kernel
theorem dX7_lives_47 : decode cX7_lives 47 = .ok (.astore 5, 2) := by decide +kernel
theorem dX7_lives_49 : decode cX7_lives 49 = .ok (.aload 5, 2) := by decide +kernel
theorem dX7_lives_51 : decode cX7_lives 51 = .ok (.getfield 134, 3) := by decide +kernel
theorem dX7_lives_54 : decode cX7_lives 54 = .ok (.istore 6, 2) := by decide +kernel
theorem dX7_lives_56 : decode cX7_lives 56 = .ok (.iconst 0, 1) := by decide +kernel
theorem dX7_lives_57 : decode cX7_lives 57 = .ok (.istore 7, 2) := by decide +kernel
theorem dX7_lives_59 : decode cX7_lives 59 = .ok (.iconst 0, 1) := by decide +kernel
theorem dX7_lives_60 : decode cX7_lives 60 = .ok (.istore 8, 2) := by decide +kernel
theorem dX7_lives_62 : decode cX7_lives 62 = .ok (.iload 8, 2) := by decide +kernel
theorem dX7_lives_64 : decode cX7_lives 64 = .ok (.iload 4, 2) := by decide +kernel
theorem dX7_lives_66 : decode cX7_lives 66 = .ok (.if_icmp .ge 142, 3) := by decide +kernel
theorem dX7_lives_69 : decode cX7_lives 69 = .ok (.iload 7, 2) := by decide +kernel
theorem dX7_lives_71 : decode cX7_lives 71 = .ok (.aload 5, 2) := by decide +kernel
theorem dX7_lives_73 : decode cX7_lives 73 = .ok (.getfield 144, 3) := by decide +kernel
theorem dX7_lives_76 : decode cX7_lives 76 = .ok (.iload 6, 2) := by decide +kernel
theorem dX7_lives_78 : decode cX7_lives 78 = .ok (.iaload, 1) := by decide +kernel
theorem dX7_lives_79 : decode cX7_lives 79 = .ok (.iadd, 1) := by decide +kernel
theorem dX7_lives_80 : decode cX7_lives 80 = .ok (.istore 7, 2) := by decide +kernel
theorem dX7_lives_82 : decode cX7_lives 82 = .ok (.iconst 0, 1) := by decide +kernel
theorem dX7_lives_83 : decode cX7_lives 83 = .ok (.istore 9, 2) := by decide +kernel
theorem dX7_lives_85 : decode cX7_lives 85 = .ok (.iconst 0, 1) := by decide +kernel
theorem dX7_lives_86 : decode cX7_lives 86 = .ok (.istore 10, 2) := by decide +kernel
theorem dX7_lives_88 : decode cX7_lives 88 = .ok (.iload 10, 2) := by decide +kernel
theorem dX7_lives_90 : decode cX7_lives 90 = .ok (.bipush 12, 2) := by decide +kernel
theorem dX7_lives_92 : decode cX7_lives 92 = .ok (.if_icmp .ge 99, 3) := by decide +kernel
theorem dX7_lives_95 : decode cX7_lives 95 = .ok (.aload_n 0, 1) := by decide +kernel
theorem dX7_lives_96 : decode cX7_lives 96 = .ok (.getfield 24, 3) := by decide +kernel
theorem dX7_lives_99 : decode cX7_lives 99 = .ok (.iload_n 1, 1) := by decide +kernel
theorem dX7_lives_100 : decode cX7_lives 100 = .ok (.aaload, 1) := by decide +kernel
theorem dX7_lives_101 : decode cX7_lives 101 = .ok (.aload_n 0, 1) := by decide +kernel
theorem dX7_lives_102 : decode cX7_lives 102 = .ok (.getfield 59, 3) := by decide +kernel
theorem dX7_lives_105 : decode cX7_lives 105 = .ok (.sipush 1000, 3) := by decide +kernel
theorem dX7_lives_108 : decode cX7_lives 108 = .ok (.invokevirtual 302, 3) := by decide +kernel
theorem dX7_lives_111 : decode cX7_lives 111 = .ok (.invokevirtual 305, 3) := by decide +kernel
theorem dX7_lives_114 : decode cX7_lives 114 = .ok (.istore 11, 2) := by decide +kernel
theorem dX7_lives_116 : decode cX7_lives 116 = .ok (.iload 11, 2) := by decide +kernel
theorem dX7_lives_118 : decode cX7_lives 118 = .ok (.ifCond .le 25, 3) := by decide +kernel
theorem dX7_lives_121 : decode cX7_lives 121 = .ok (.iload 11, 2) := by decide +kernel
theorem dX7_lives_123 : decode cX7_lives 123 = .ok (.aload_n 0, 1) := by decide +kernel
theorem dX7_lives_124 : decode cX7_lives 124 = .ok (.getfield 30, 3) := by decide +kernel
theorem dX7_lives_127 : decode cX7_lives 127 = .ok (.iload_n 3, 1) := by decide +kernel
theorem dX7_lives_128 : decode cX7_lives 128 = .ok (.aaload, 1) := by decide +kernel
theorem dX7_lives_129 : decode cX7_lives 129 = .ok (.iload 6, 2) := by decide +kernel
theorem dX7_lives_131 : decode cX7_lives 131 = .ok (.iload 10, 2) := by decide +kernel
theorem dX7_lives_133 : decode cX7_lives 133 = .ok (.invokevirtual 308, 3) := by decide +kernel
theorem dX7_lives_136 : decode cX7_lives 136 = .ok (.if_icmp .lt 7, 3) := by decide +kernel
theorem dX7_lives_139 : decode cX7_lives 139 = .ok (.iconst 1, 1) := by decide +kernel
theorem dX7_lives_140 : decode cX7_lives 140 = .ok (.goto 4, 3) := by decide +kernel
theorem dX7_lives_143 : decode cX7_lives 143 = .ok (.iconst 0, 1) := by decide +kernel
theorem dX7_lives_144 : decode cX7_lives 144 = .ok (.istore 12, 2) := by decide +kernel
theorem dX7_lives_146 : decode cX7_lives 146 = .ok (.iload 7, 2) := by decide +kernel
theorem dX7_lives_148 : decode cX7_lives 148 = .ok (.iload 12, 2) := by decide +kernel
theorem dX7_lives_150 : decode cX7_lives 150 = .ok (.ifCond .eq 13, 3) := by decide +kernel
theorem dX7_lives_153 : decode cX7_lives 153 = .ok (.aload 5, 2) := by decide +kernel
theorem dX7_lives_155 : decode cX7_lives 155 = .ok (.iload 11, 2) := by decide +kernel
theorem dX7_lives_157 : decode cX7_lives 157 = .ok (.invokevirtual 289, 3) := by decide +kernel
theorem dX7_lives_160 : decode cX7_lives 160 = .ok (.goto 5, 3) := by decide +kernel
theorem dX7_lives_163 : decode cX7_lives 163 = .ok (.iload 11, 2) := by decide +kernel
theorem dX7_lives_165 : decode cX7_lives 165 = .ok (.iadd, 1) := by decide +kernel
theorem dX7_lives_166 : decode cX7_lives 166 = .ok (.istore 7, 2) := by decide +kernel
theorem dX7_lives_168 : decode cX7_lives 168 = .ok (.iload 12, 2) := by decide +kernel
theorem dX7_lives_170 : decode cX7_lives 170 = .ok (.ifCond .eq 11, 3) := by decide +kernel
theorem dX7_lives_173 : decode cX7_lives 173 = .ok (.iload 9, 2) := by decide +kernel
theorem dX7_lives_175 : decode cX7_lives 175 = .ok (.invokestatic 230, 3) := by decide +kernel
theorem dX7_lives_178 : decode cX7_lives 178 = .ok (.goto 5, 3) := by decide +kernel
theorem dX7_lives_181 : decode cX7_lives 181 = .ok (.iload 9, 2) := by decide +kernel
theorem dX7_lives_183 : decode cX7_lives 183 = .ok (.istore 9, 2) := by decide +kernel
theorem dX7_lives_185 : decode cX7_lives 185 = .ok (.iinc 10 1, 3) := by decide +kernel
theorem dX7_lives_188 : decode cX7_lives 188 = .ok (.goto (-100), 3) := by decide +kernel
theorem dX7_lives_191 : decode cX7_lives 191 = .ok (.aload 5, 2) := by decide +kernel
theorem dX7_lives_193 : decode cX7_lives 193 = .ok (.iload 6, 2) := by decide +kernel
theorem dX7_lives_195 : decode cX7_lives 195 = .ok (.iload 9, 2) := by decide +kernel
theorem dX7_lives_197 : decode cX7_lives 197 = .ok (.invokevirtual 148, 3) := by decide +kernel
theorem dX7_lives_200 : decode cX7_lives 200 = .ok (.istore 6, 2) := by decide +kernel
theorem dX7_lives_202 : decode cX7_lives 202 = .ok (.iinc 8 1, 3) := by decide +kernel
theorem dX7_lives_205 : decode cX7_lives 205 = .ok (.goto (-143), 3) := by decide +kernel
theorem dX7_lives_208 : decode cX7_lives 208 = .ok (.iload 7, 2) := by decide +kernel
theorem dX7_lives_210 : decode cX7_lives 210 = .ok (.ireturn, 1) := by decide +kernel
theorem dX7_count_0 : decode cX7_count 0 = .ok (.iload_n 1, 1) := by decide +kernel
theorem dX7_count_1 : decode cX7_count 1 = .ok (.tableswitch 69 0 4 #[35, 40, 45, 53, 61], 35) := by decide +kernel
theorem dX7_count_36 : decode cX7_count 36 = .ok (.aload_n 0, 1) := by decide +kernel
theorem dX7_count_37 : decode cX7_count 37 = .ok (.getfield 67, 3) := by decide +kernel
theorem dX7_count_40 : decode cX7_count 40 = .ok (.ireturn, 1) := by decide +kernel
theorem dX7_count_41 : decode cX7_count 41 = .ok (.aload_n 0, 1) := by decide +kernel
theorem dX7_count_42 : decode cX7_count 42 = .ok (.getfield 71, 3) := by decide +kernel
theorem dX7_count_45 : decode cX7_count 45 = .ok (.ireturn, 1) := by decide +kernel
theorem dX7_count_46 : decode cX7_count 46 = .ok (.aload_n 0, 1) := by decide +kernel
theorem dX7_count_47 : decode cX7_count 47 = .ok (.getfield 59, 3) := by decide +kernel
theorem dX7_count_50 : decode cX7_count 50 = .ok (.getfield 216, 3) := by decide +kernel
theorem dX7_count_53 : decode cX7_count 53 = .ok (.ireturn, 1) := by decide +kernel
theorem dX7_count_54 : decode cX7_count 54 = .ok (.aload_n 0, 1) := by decide +kernel
theorem dX7_count_55 : decode cX7_count 55 = .ok (.getfield 59, 3) := by decide +kernel
theorem dX7_count_58 : decode cX7_count 58 = .ok (.getfield 266, 3) := by decide +kernel
theorem dX7_count_61 : decode cX7_count 61 = .ok (.ireturn, 1) := by decide +kernel
theorem dX7_count_62 : decode cX7_count 62 = .ok (.aload_n 0, 1) := by decide +kernel
theorem dX7_count_63 : decode cX7_count 63 = .ok (.getfield 10, 3) := by decide +kernel
theorem dX7_count_66 : decode cX7_count 66 = .ok (.getfield 91, 3) := by decide +kernel
theorem dX7_count_69 : decode cX7_count 69 = .ok (.ireturn, 1) := by decide +kernel
theorem dX7_count_70 : decode cX7_count 70 = .ok (.ldc 90, 2) := by decide +kernel
theorem dX7_count_72 : decode cX7_count 72 = .ok (.ireturn, 1) := by decide +kernel
theorem dX7_keep_0 : decode cX7_keep 0 = .ok (.iload_n 1, 1) := by decide +kernel
theorem dX7_keep_1 : decode cX7_keep 1 = .ok (.iconst 0, 1) := by decide +kernel
theorem dX7_keep_2 : decode cX7_keep 2 = .ok (.iconst 1, 1) := by decide +kernel
theorem dX7_keep_3 : decode cX7_keep 3 = .ok (.invokestatic 86, 3) := by decide +kernel
theorem dX7_keep_6 : decode cX7_keep 6 = .ok (.ifCond .eq 6, 3) := by decide +kernel
theorem dX7_keep_9 : decode cX7_keep 9 = .ok (.ldc 99, 2) := by decide +kernel
theorem dX7_keep_11 : decode cX7_keep 11 = .ok (.ireturn, 1) := by decide +kernel
theorem dX7_keep_12 : decode cX7_keep 12 = .ok (.aload_n 0, 1) := by decide +kernel
theorem dX7_keep_13 : decode cX7_keep 13 = .ok (.getfield 63, 3) := by decide +kernel
theorem dX7_keep_16 : decode cX7_keep 16 = .ok (.iload_n 1, 1) := by decide +kernel
theorem dX7_keep_17 : decode cX7_keep 17 = .ok (.aaload, 1) := by decide +kernel
theorem dX7_keep_18 : decode cX7_keep 18 = .ok (.aload_n 0, 1) := by decide +kernel
theorem dX7_keep_19 : decode cX7_keep 19 = .ok (.getfield 59, 3) := by decide +kernel
theorem dX7_keep_22 : decode cX7_keep 22 = .ok (.invokevirtual 311, 3) := by decide +kernel
theorem dX7_keep_25 : decode cX7_keep 25 = .ok (.aload_n 0, 1) := by decide +kernel
theorem dX7_keep_26 : decode cX7_keep 26 = .ok (.getfield 63, 3) := by decide +kernel
theorem dX7_keep_29 : decode cX7_keep 29 = .ok (.iload_n 1, 1) := by decide +kernel
theorem dX7_keep_30 : decode cX7_keep 30 = .ok (.aaload, 1) := by decide +kernel
theorem dX7_keep_31 : decode cX7_keep 31 = .ok (.iconst 1, 1) := by decide +kernel
theorem dX7_keep_32 : decode cX7_keep 32 = .ok (.putfield 314, 3) := by decide +kernel
theorem dX7_keep_35 : decode cX7_keep 35 = .ok (.iconst 1, 1) := by decide +kernel
theorem dX7_keep_36 : decode cX7_keep 36 = .ok (.ireturn, 1) := by decide +kernel
theorem dX7_goBack_0 : decode cX7_goBack 0 = .ok (.iload_n 1, 1) := by decide +kernel
theorem dX7_goBack_1 : decode cX7_goBack 1 = .ok (.iconst 0, 1) := by decide +kernel
theorem dX7_goBack_2 : decode cX7_goBack 2 = .ok (.iconst 1, 1) := by decide +kernel
theorem dX7_goBack_3 : decode cX7_goBack 3 = .ok (.invokestatic 86, 3) := by decide +kernel
theorem dX7_goBack_6 : decode cX7_goBack 6 = .ok (.ifCond .eq 6, 3) := by decide +kernel
theorem dX7_goBack_9 : decode cX7_goBack 9 = .ok (.ldc 99, 2) := by decide +kernel
theorem dX7_goBack_11 : decode cX7_goBack 11 = .ok (.ireturn, 1) := by decide +kernel
theorem dX7_goBack_12 : decode cX7_goBack 12 = .ok (.aload_n 0, 1) := by decide +kernel
theorem dX7_goBack_13 : decode cX7_goBack 13 = .ok (.getfield 63, 3) := by decide +kernel
theorem dX7_goBack_16 : decode cX7_goBack 16 = .ok (.iload_n 1, 1) := by decide +kernel
theorem dX7_goBack_17 : decode cX7_goBack 17 = .ok (.aaload, 1) := by decide +kernel
theorem dX7_goBack_18 : decode cX7_goBack 18 = .ok (.getfield 314, 3) := by decide +kernel
theorem dX7_goBack_21 : decode cX7_goBack 21 = .ok (.ifCond .ne 6, 3) := by decide +kernel
theorem dX7_goBack_24 : decode cX7_goBack 24 = .ok (.ldc 118, 2) := by decide +kernel
theorem dX7_goBack_26 : decode cX7_goBack 26 = .ok (.ireturn, 1) := by decide +kernel
theorem dX7_goBack_27 : decode cX7_goBack 27 = .ok (.aload_n 0, 1) := by decide +kernel
theorem dX7_goBack_28 : decode cX7_goBack 28 = .ok (.getfield 59, 3) := by decide +kernel
theorem dX7_goBack_31 : decode cX7_goBack 31 = .ok (.aload_n 0, 1) := by decide +kernel
theorem dX7_goBack_32 : decode cX7_goBack 32 = .ok (.getfield 63, 3) := by decide +kernel
theorem dX7_goBack_35 : decode cX7_goBack 35 = .ok (.iload_n 1, 1) := by decide +kernel
theorem dX7_goBack_36 : decode cX7_goBack 36 = .ok (.aaload, 1) := by decide +kernel
theorem dX7_goBack_37 : decode cX7_goBack 37 = .ok (.invokevirtual 311, 3) := by decide +kernel
theorem dX7_goBack_40 : decode cX7_goBack 40 = .ok (.iconst 1, 1) := by decide +kernel
theorem dX7_goBack_41 : decode cX7_goBack 41 = .ok (.ireturn, 1) := by decide +kernel
theorem dX7_isOut_0 : decode cX7_isOut 0 = .ok (.iload_n 0, 1) := by decide +kernel
theorem dX7_isOut_1 : decode cX7_isOut 1 = .ok (.iload_n 1, 1) := by decide +kernel
theorem dX7_isOut_2 : decode cX7_isOut 2 = .ok (.if_icmp .lt 8, 3) := by decide +kernel
theorem dX7_isOut_5 : decode cX7_isOut 5 = .ok (.iload_n 0, 1) := by decide +kernel
theorem dX7_isOut_6 : decode cX7_isOut 6 = .ok (.iload_n 2, 1) := by decide +kernel
theorem dX7_isOut_7 : decode cX7_isOut 7 = .ok (.if_icmp .le 7, 3) := by decide +kernel
theorem dX7_isOut_10 : decode cX7_isOut 10 = .ok (.iconst 1, 1) := by decide +kernel
theorem dX7_isOut_11 : decode cX7_isOut 11 = .ok (.goto 4, 3) := by decide +kernel
theorem dX7_isOut_14 : decode cX7_isOut 14 = .ok (.iconst 0, 1) := by decide +kernel
theorem dX7_isOut_15 : decode cX7_isOut 15 = .ok (.ireturn, 1) := by decide +kernel
theorem dX7_isNoYear_0 : decode cX7_isNoYear 0 = .ok (.iload_n 0, 1) := by decide +kernel
theorem dX7_isNoYear_1 : decode cX7_isNoYear 1 = .ok (.iconst 1, 1) := by decide +kernel
theorem dX7_isNoYear_2 : decode cX7_isNoYear 2 = .ok (.bipush 30, 2) := by decide +kernel
theorem dX7_isNoYear_4 : decode cX7_isNoYear 4 = .ok (.invokestatic 86, 3) := by decide +kernel
theorem dX7_isNoYear_7 : decode cX7_isNoYear 7 = .ok (.ifCond .ne 14, 3) := by decide +kernel
theorem dX7_isNoYear_10 : decode cX7_isNoYear 10 = .ok (.iload_n 1, 1) := by decide +kernel
theorem dX7_isNoYear_11 : decode cX7_isNoYear 11 = .ok (.iconst 0, 1) := by decide +kernel
theorem dX7_isNoYear_12 : decode cX7_isNoYear 12 = .ok (.iload_n 0, 1) := by decide +kernel
theorem dX7_isNoYear_13 : decode cX7_isNoYear 13 = .ok (.iconst 1, 1) := by decide +kernel
theorem dX7_isNoYear_14 : decode cX7_isNoYear 14 = .ok (.isub, 1) := by decide +kernel
theorem dX7_isNoYear_15 : decode cX7_isNoYear 15 = .ok (.invokestatic 86, 3) := by decide +kernel
theorem dX7_isNoYear_18 : decode cX7_isNoYear 18 = .ok (.ifCond .eq 7, 3) := by decide +kernel
theorem dX7_isNoYear_21 : decode cX7_isNoYear 21 = .ok (.iconst 1, 1) := by decide +kernel
theorem dX7_isNoYear_22 : decode cX7_isNoYear 22 = .ok (.goto 4, 3) := by decide +kernel
theorem dX7_isNoYear_25 : decode cX7_isNoYear 25 = .ok (.iconst 0, 1) := by decide +kernel
theorem dX7_isNoYear_26 : decode cX7_isNoYear 26 = .ok (.ireturn, 1) := by decide +kernel
theorem dX7_oneMore_0 : decode cX7_oneMore 0 = .ok (.iload_n 0, 1) := by decide +kernel
theorem dX7_oneMore_1 : decode cX7_oneMore 1 = .ok (.iconst 3, 1) := by decide +kernel
theorem dX7_oneMore_2 : decode cX7_oneMore 2 = .ok (.if_icmp .ge 9, 3) := by decide +kernel
theorem dX7_oneMore_5 : decode cX7_oneMore 5 = .ok (.iload_n 0, 1) := by decide +kernel
theorem dX7_oneMore_6 : decode cX7_oneMore 6 = .ok (.iconst 1, 1) := by decide +kernel
theorem dX7_oneMore_7 : decode cX7_oneMore 7 = .ok (.iadd, 1) := by decide +kernel
theorem dX7_oneMore_8 : decode cX7_oneMore 8 = .ok (.goto 4, 3) := by decide +kernel
theorem dX7_oneMore_11 : decode cX7_oneMore 11 = .ok (.iconst 3, 1) := by decide +kernel
theorem dX7_oneMore_12 : decode cX7_oneMore 12 = .ok (.ireturn, 1) := by decide +kernel
theorem dX7_isHouse_0 : decode cX7_isHouse 0 = .ok (.iload_n 1, 1) := by decide +kernel
theorem dX7_isHouse_1 : decode cX7_isHouse 1 = .ok (.iconst 0, 1) := by decide +kernel
theorem dX7_isHouse_2 : decode cX7_isHouse 2 = .ok (.iconst 1, 1) := by decide +kernel
theorem dX7_isHouse_3 : decode cX7_isHouse 3 = .ok (.invokestatic 86, 3) := by decide +kernel
theorem dX7_isHouse_6 : decode cX7_isHouse 6 = .ok (.ifCond .ne 19, 3) := by decide +kernel
theorem dX7_isHouse_9 : decode cX7_isHouse 9 = .ok (.aload_n 0, 1) := by decide +kernel
theorem dX7_isHouse_10 : decode cX7_isHouse 10 = .ok (.getfield 18, 3) := by decide +kernel
theorem dX7_isHouse_13 : decode cX7_isHouse 13 = .ok (.iload_n 1, 1) := by decide +kernel
theorem dX7_isHouse_14 : decode cX7_isHouse 14 = .ok (.aaload, 1) := by decide +kernel
theorem dX7_isHouse_15 : decode cX7_isHouse 15 = .ok (.getfield 104, 3) := by decide +kernel
theorem dX7_isHouse_18 : decode cX7_isHouse 18 = .ok (.ifCond .le 7, 3) := by decide +kernel
theorem dX7_isHouse_21 : decode cX7_isHouse 21 = .ok (.iconst 1, 1) := by decide +kernel
theorem dX7_isHouse_22 : decode cX7_isHouse 22 = .ok (.goto 4, 3) := by decide +kernel
theorem dX7_isHouse_25 : decode cX7_isHouse 25 = .ok (.iconst 0, 1) := by decide +kernel
theorem dX7_isHouse_26 : decode cX7_isHouse 26 = .ok (.ireturn, 1) := by decide +kernel
theorem dX7_isRung_0 : decode cX7_isRung 0 = .ok (.aload_n 0, 1) := by decide +kernel
theorem dX7_isRung_1 : decode cX7_isRung 1 = .ok (.iload_n 1, 1) := by decide +kernel
theorem dX7_isRung_2 : decode cX7_isRung 2 = .ok (.invokevirtual 121, 3) := by decide +kernel
theorem dX7_isRung_5 : decode cX7_isRung 5 = .ok (.ifCond .eq 26, 3) := by decide +kernel
theorem dX7_isRung_8 : decode cX7_isRung 8 = .ok (.iload_n 2, 1) := by decide +kernel
theorem dX7_isRung_9 : decode cX7_isRung 9 = .ok (.iconst 0, 1) := by decide +kernel
theorem dX7_isRung_10 : decode cX7_isRung 10 = .ok (.aload_n 0, 1) := by decide +kernel
theorem dX7_isRung_11 : decode cX7_isRung 11 = .ok (.getfield 18, 3) := by decide +kernel
theorem dX7_isRung_14 : decode cX7_isRung 14 = .ok (.iload_n 1, 1) := by decide +kernel
theorem dX7_isRung_15 : decode cX7_isRung 15 = .ok (.aaload, 1) := by decide +kernel
theorem dX7_isRung_16 : decode cX7_isRung 16 = .ok (.getfield 104, 3) := by decide +kernel
theorem dX7_isRung_19 : decode cX7_isRung 19 = .ok (.iconst 1, 1) := by decide +kernel
theorem dX7_isRung_20 : decode cX7_isRung 20 = .ok (.isub, 1) := by decide +kernel
theorem dX7_isRung_21 : decode cX7_isRung 21 = .ok (.invokestatic 86, 3) := by decide +kernel
theorem dX7_isRung_24 : decode cX7_isRung 24 = .ok (.ifCond .ne 7, 3) := by decide +kernel
theorem dX7_isRung_27 : decode cX7_isRung 27 = .ok (.iconst 1, 1) := by decide +kernel
theorem dX7_isRung_28 : decode cX7_isRung 28 = .ok (.goto 4, 3) := by decide +kernel
theorem dX7_isRung_31 : decode cX7_isRung 31 = .ok (.iconst 0, 1) := by decide +kernel
theorem dX7_isRung_32 : decode cX7_isRung 32 = .ok (.ireturn, 1) := by decide +kernel
theorem dX7_isSort_0 : decode cX7_isSort 0 = .ok (.iload_n 1, 1) := by decide +kernel
theorem dX7_isSort_1 : decode cX7_isSort 1 = .ok (.iconst 0, 1) := by decide +kernel
theorem dX7_isSort_2 : decode cX7_isSort 2 = .ok (.aload_n 0, 1) := by decide +kernel
theorem dX7_isSort_3 : decode cX7_isSort 3 = .ok (.getfield 67, 3) := by decide +kernel
theorem dX7_isSort_6 : decode cX7_isSort 6 = .ok (.iconst 1, 1) := by decide +kernel
theorem dX7_isSort_7 : decode cX7_isSort 7 = .ok (.isub, 1) := by decide +kernel
theorem dX7_isSort_8 : decode cX7_isSort 8 = .ok (.invokestatic 86, 3) := by decide +kernel
theorem dX7_isSort_11 : decode cX7_isSort 11 = .ok (.ifCond .ne 7, 3) := by decide +kernel
theorem dX7_isSort_14 : decode cX7_isSort 14 = .ok (.iconst 1, 1) := by decide +kernel
theorem dX7_isSort_15 : decode cX7_isSort 15 = .ok (.goto 4, 3) := by decide +kernel
theorem dX7_isSort_18 : decode cX7_isSort 18 = .ok (.iconst 0, 1) := by decide +kernel
theorem dX7_isSort_19 : decode cX7_isSort 19 = .ok (.ireturn, 1) := by decide +kernel
theorem dX7_isRule_0 : decode cX7_isRule 0 = .ok (.iload_n 1, 1) := by decide +kernel
theorem dX7_isRule_1 : decode cX7_isRule 1 = .ok (.iconst 0, 1) := by decide +kernel
theorem dX7_isRule_2 : decode cX7_isRule 2 = .ok (.aload_n 0, 1) := by decide +kernel
theorem dX7_isRule_3 : decode cX7_isRule 3 = .ok (.getfield 71, 3) := by decide +kernel
theorem dX7_isRule_6 : decode cX7_isRule 6 = .ok (.iconst 1, 1) := by decide +kernel
theorem dX7_isRule_7 : decode cX7_isRule 7 = .ok (.isub, 1) := by decide +kernel
theorem dX7_isRule_8 : decode cX7_isRule 8 = .ok (.invokestatic 86, 3) := by decide +kernel
theorem dX7_isRule_11 : decode cX7_isRule 11 = .ok (.ifCond .ne 7, 3) := by decide +kernel
theorem dX7_isRule_14 : decode cX7_isRule 14 = .ok (.iconst 1, 1) := by decide +kernel
theorem dX7_isRule_15 : decode cX7_isRule 15 = .ok (.goto 4, 3) := by decide +kernel
theorem dX7_isRule_18 : decode cX7_isRule 18 = .ok (.iconst 0, 1) := by decide +kernel
theorem dX7_isRule_19 : decode cX7_isRule 19 = .ok (.ireturn, 1) := by decide +kernel
theorem dX7_isWay_0 : decode cX7_isWay 0 = .ok (.iload_n 1, 1) := by decide +kernel
theorem dX7_isWay_1 : decode cX7_isWay 1 = .ok (.iconst (-1), 1) := by decide +kernel
theorem dX7_isWay_2 : decode cX7_isWay 2 = .ok (.if_icmp .eq 11, 3) := by decide +kernel
theorem dX7_isWay_5 : decode cX7_isWay 5 = .ok (.aload_n 0, 1) := by decide +kernel
theorem dX7_isWay_6 : decode cX7_isWay 6 = .ok (.iload_n 1, 1) := by decide +kernel
theorem dX7_isWay_7 : decode cX7_isWay 7 = .ok (.invokevirtual 200, 3) := by decide +kernel
theorem dX7_isWay_10 : decode cX7_isWay 10 = .ok (.ifCond .eq 7, 3) := by decide +kernel
theorem dX7_isWay_13 : decode cX7_isWay 13 = .ok (.iconst 1, 1) := by decide +kernel
theorem dX7_isWay_14 : decode cX7_isWay 14 = .ok (.goto 4, 3) := by decide +kernel
theorem dX7_isWay_17 : decode cX7_isWay 17 = .ok (.iconst 0, 1) := by decide +kernel
theorem dX7_isWay_18 : decode cX7_isWay 18 = .ok (.ireturn, 1) := by decide +kernel
theorem dX7_closeText_0 : decode cX7_closeText 0 = .ok (.aload_n 0, 1) := by decide +kernel
theorem dX7_closeText_1 : decode cX7_closeText 1 = .ok (.getfield 10, 3) := by decide +kernel
theorem dX7_closeText_4 : decode cX7_closeText 4 = .ok (.iconst 0, 1) := by decide +kernel
theorem dX7_closeText_5 : decode cX7_closeText 5 = .ok (.putfield 91, 3) := by decide +kernel
theorem dX7_closeText_8 : decode cX7_closeText 8 = .ok (.aload_n 0, 1) := by decide +kernel
theorem dX7_closeText_9 : decode cX7_closeText 9 = .ok (.aload_n 0, 1) := by decide +kernel
theorem dX7_closeText_10 : decode cX7_closeText 10 = .ok (.getfield 10, 3) := by decide +kernel
theorem dX7_closeText_13 : decode cX7_closeText 13 = .ok (.getfield 316, 3) := by decide +kernel
theorem dX7_closeText_16 : decode cX7_closeText 16 = .ok (.putfield 74, 3) := by decide +kernel
theorem dX7_closeText_19 : decode cX7_closeText 19 = .ok (.aload_n 0, 1) := by decide +kernel
theorem dX7_closeText_20 : decode cX7_closeText 20 = .ok (.getfield 10, 3) := by decide +kernel
theorem dX7_closeText_23 : decode cX7_closeText 23 = .ok (.getfield 319, 3) := by decide +kernel
theorem dX7_closeText_26 : decode cX7_closeText 26 = .ok (.ifCond .ne 7, 3) := by decide +kernel
theorem dX7_closeText_29 : decode cX7_closeText 29 = .ok (.iload_n 1, 1) := by decide +kernel
theorem dX7_closeText_30 : decode cX7_closeText 30 = .ok (.goto 13, 3) := by decide +kernel
theorem dX7_closeText_33 : decode cX7_closeText 33 = .ok (.bipush (-10), 2) := by decide +kernel
theorem dX7_closeText_35 : decode cX7_closeText 35 = .ok (.aload_n 0, 1) := by decide +kernel
theorem dX7_closeText_36 : decode cX7_closeText 36 = .ok (.getfield 10, 3) := by decide +kernel
theorem dX7_closeText_39 : decode cX7_closeText 39 = .ok (.getfield 319, 3) := by decide +kernel
theorem dX7_closeText_42 : decode cX7_closeText 42 = .ok (.isub, 1) := by decide +kernel
theorem dX7_closeText_43 : decode cX7_closeText 43 = .ok (.ireturn, 1) := by decide +kernel
theorem dX7_planOf_0 : decode cX7_planOf 0 = .ok (.aload_n 0, 1) := by decide +kernel
theorem dX7_planOf_1 : decode cX7_planOf 1 = .ok (.getfield 36, 3) := by decide +kernel
theorem dX7_planOf_4 : decode cX7_planOf 4 = .ok (.iload_n 1, 1) := by decide +kernel
theorem dX7_planOf_5 : decode cX7_planOf 5 = .ok (.iconst 2, 1) := by decide +kernel
theorem dX7_planOf_6 : decode cX7_planOf 6 = .ok (.imul, 1) := by decide +kernel
theorem dX7_planOf_7 : decode cX7_planOf 7 = .ok (.iload_n 2, 1) := by decide +kernel
theorem dX7_planOf_8 : decode cX7_planOf 8 = .ok (.iadd, 1) := by decide +kernel
theorem dX7_planOf_9 : decode cX7_planOf 9 = .ok (.aaload, 1) := by decide +kernel
theorem dX7_planOf_10 : decode cX7_planOf 10 = .ok (.astore 4, 2) := by decide +kernel
theorem dX7_planOf_12 : decode cX7_planOf 12 = .ok (.aload 4, 2) := by decide +kernel
theorem dX7_planOf_14 : decode cX7_planOf 14 = .ok (.iload_n 3, 1) := by decide +kernel
theorem dX7_planOf_15 : decode cX7_planOf 15 = .ok (.invokevirtual 207, 3) := by decide +kernel
theorem dX7_planOf_18 : decode cX7_planOf 18 = .ok (.aload 4, 2) := by decide +kernel
theorem dX7_planOf_20 : decode cX7_planOf 20 = .ok (.areturn, 1) := by decide +kernel
theorem dX7_wayOf_0 : decode cX7_wayOf 0 = .ok (.iload_n 3, 1) := by decide +kernel
theorem dX7_wayOf_1 : decode cX7_wayOf 1 = .ok (.iconst (-1), 1) := by decide +kernel
theorem dX7_wayOf_2 : decode cX7_wayOf 2 = .ok (.if_icmp .ne 12, 3) := by decide +kernel
theorem dX7_wayOf_5 : decode cX7_wayOf 5 = .ok (.aload_n 0, 1) := by decide +kernel
theorem dX7_wayOf_6 : decode cX7_wayOf 6 = .ok (.iload_n 1, 1) := by decide +kernel
theorem dX7_wayOf_7 : decode cX7_wayOf 7 = .ok (.iload_n 2, 1) := by decide +kernel
theorem dX7_wayOf_8 : decode cX7_wayOf 8 = .ok (.iload 4, 2) := by decide +kernel
theorem dX7_wayOf_10 : decode cX7_wayOf 10 = .ok (.invokevirtual 177, 3) := by decide +kernel
theorem dX7_wayOf_13 : decode cX7_wayOf 13 = .ok (.areturn, 1) := by decide +kernel
theorem dX7_wayOf_14 : decode cX7_wayOf 14 = .ok (.aload_n 0, 1) := by decide +kernel
theorem dX7_wayOf_15 : decode cX7_wayOf 15 = .ok (.getfield 81, 3) := by decide +kernel
theorem dX7_wayOf_18 : decode cX7_wayOf 18 = .ok (.aload_n 0, 1) := by decide +kernel
theorem dX7_wayOf_19 : decode cX7_wayOf 19 = .ok (.getfield 24, 3) := by decide +kernel
theorem dX7_wayOf_22 : decode cX7_wayOf 22 = .ok (.iload_n 1, 1) := by decide +kernel
theorem dX7_wayOf_23 : decode cX7_wayOf 23 = .ok (.aaload, 1) := by decide +kernel
theorem dX7_wayOf_24 : decode cX7_wayOf 24 = .ok (.aload_n 0, 1) := by decide +kernel
theorem dX7_wayOf_25 : decode cX7_wayOf 25 = .ok (.getfield 18, 3) := by decide +kernel
theorem dX7_wayOf_28 : decode cX7_wayOf 28 = .ok (.iload_n 2, 1) := by decide +kernel
theorem dX7_wayOf_29 : decode cX7_wayOf 29 = .ok (.aaload, 1) := by decide +kernel
theorem dX7_wayOf_30 : decode cX7_wayOf 30 = .ok (.aload_n 0, 1) := by decide +kernel
theorem dX7_wayOf_31 : decode cX7_wayOf 31 = .ok (.getfield 30, 3) := by decide +kernel
theorem dX7_wayOf_34 : decode cX7_wayOf 34 = .ok (.iload_n 3, 1) := by decide +kernel
theorem dX7_wayOf_35 : decode cX7_wayOf 35 = .ok (.aaload, 1) := by decide +kernel
theorem dX7_wayOf_36 : decode cX7_wayOf 36 = .ok (.invokevirtual 203, 3) := by decide +kernel
theorem dX7_wayOf_39 : decode cX7_wayOf 39 = .ok (.aload_n 0, 1) := by decide +kernel
theorem dX7_wayOf_40 : decode cX7_wayOf 40 = .ok (.getfield 81, 3) := by decide +kernel
theorem dX7_wayOf_43 : decode cX7_wayOf 43 = .ok (.areturn, 1) := by decide +kernel
theorem dX7_weighSorts_0 : decode cX7_weighSorts 0 = .ok (.iconst 0, 1) := by decide +kernel
theorem dX7_weighSorts_1 : decode cX7_weighSorts 1 = .ok (.istore_n 3, 1) := by decide +kernel
theorem dX7_weighSorts_2 : decode cX7_weighSorts 2 = .ok (.iload_n 3, 1) := by decide +kernel
theorem dX7_weighSorts_3 : decode cX7_weighSorts 3 = .ok (.aload_n 0, 1) := by decide +kernel
theorem dX7_weighSorts_4 : decode cX7_weighSorts 4 = .ok (.getfield 67, 3) := by decide +kernel
theorem dX7_weighSorts_7 : decode cX7_weighSorts 7 = .ok (.if_icmp .ge 18, 3) := by decide +kernel
theorem dX7_weighSorts_10 : decode cX7_weighSorts 10 = .ok (.aload_n 0, 1) := by decide +kernel
theorem dX7_weighSorts_11 : decode cX7_weighSorts 11 = .ok (.getfield 52, 3) := by decide +kernel
theorem dX7_weighSorts_14 : decode cX7_weighSorts 14 = .ok (.iload_n 3, 1) := by decide +kernel
theorem dX7_weighSorts_15 : decode cX7_weighSorts 15 = .ok (.ldc2_w 322, 3) := by decide +kernel
theorem dX7_weighSorts_18 : decode cX7_weighSorts 18 = .ok (.lastore, 1) := by decide +kernel
theorem dX7_weighSorts_19 : decode cX7_weighSorts 19 = .ok (.iinc 3 1, 3) := by decide +kernel
theorem dX7_weighSorts_22 : decode cX7_weighSorts 22 = .ok (.goto (-20), 3) := by decide +kernel
theorem dX7_weighSorts_25 : decode cX7_weighSorts 25 = .ok (.iconst 0, 1) := by decide +kernel
theorem dX7_weighSorts_26 : decode cX7_weighSorts 26 = .ok (.istore_n 3, 1) := by decide +kernel
theorem dX7_weighSorts_27 : decode cX7_weighSorts 27 = .ok (.iload_n 3, 1) := by decide +kernel
theorem dX7_weighSorts_28 : decode cX7_weighSorts 28 = .ok (.aload_n 0, 1) := by decide +kernel
theorem dX7_weighSorts_29 : decode cX7_weighSorts 29 = .ok (.getfield 59, 3) := by decide +kernel
theorem dX7_weighSorts_32 : decode cX7_weighSorts 32 = .ok (.getfield 266, 3) := by decide +kernel
theorem dX7_weighSorts_35 : decode cX7_weighSorts 35 = .ok (.if_icmp .ge 160, 3) := by decide +kernel
theorem dX7_weighSorts_38 : decode cX7_weighSorts 38 = .ok (.lconst 0, 1) := by decide +kernel
theorem dX7_weighSorts_39 : decode cX7_weighSorts 39 = .ok (.lstore 4, 2) := by decide +kernel
theorem dX7_weighSorts_41 : decode cX7_weighSorts 41 = .ok (.iconst 0, 1) := by decide +kernel
theorem dX7_weighSorts_42 : decode cX7_weighSorts 42 = .ok (.istore 6, 2) := by decide +kernel
theorem dX7_weighSorts_44 : decode cX7_weighSorts 44 = .ok (.iload 6, 2) := by decide +kernel
theorem dX7_weighSorts_46 : decode cX7_weighSorts 46 = .ok (.aload_n 0, 1) := by decide +kernel
theorem dX7_weighSorts_47 : decode cX7_weighSorts 47 = .ok (.getfield 67, 3) := by decide +kernel
theorem dX7_weighSorts_50 : decode cX7_weighSorts 50 = .ok (.if_icmp .ge 93, 3) := by decide +kernel
theorem dX7_weighSorts_53 : decode cX7_weighSorts 53 = .ok (.aload_n 0, 1) := by decide +kernel
theorem dX7_weighSorts_54 : decode cX7_weighSorts 54 = .ok (.getfield 48, 3) := by decide +kernel
theorem dX7_weighSorts_57 : decode cX7_weighSorts 57 = .ok (.aload_n 0, 1) := by decide +kernel
theorem dX7_weighSorts_58 : decode cX7_weighSorts 58 = .ok (.iload 6, 2) := by decide +kernel
theorem dX7_weighSorts_60 : decode cX7_weighSorts 60 = .ok (.iload_n 1, 1) := by decide +kernel
theorem dX7_weighSorts_61 : decode cX7_weighSorts 61 = .ok (.iload_n 2, 1) := by decide +kernel
theorem dX7_weighSorts_62 : decode cX7_weighSorts 62 = .ok (.invokevirtual 177, 3) := by decide +kernel
theorem dX7_weighSorts_65 : decode cX7_weighSorts 65 = .ok (.iload_n 2, 1) := by decide +kernel
theorem dX7_weighSorts_66 : decode cX7_weighSorts 66 = .ok (.aload_n 0, 1) := by decide +kernel
theorem dX7_weighSorts_67 : decode cX7_weighSorts 67 = .ok (.getfield 59, 3) := by decide +kernel
theorem dX7_weighSorts_70 : decode cX7_weighSorts 70 = .ok (.getfield 324, 3) := by decide +kernel
theorem dX7_weighSorts_73 : decode cX7_weighSorts 73 = .ok (.iload_n 3, 1) := by decide +kernel
theorem dX7_weighSorts_74 : decode cX7_weighSorts 74 = .ok (.iaload, 1) := by decide +kernel
theorem dX7_weighSorts_75 : decode cX7_weighSorts 75 = .ok (.invokevirtual 251, 3) := by decide +kernel
theorem dX7_weighSorts_78 : decode cX7_weighSorts 78 = .ok (.aload_n 0, 1) := by decide +kernel
theorem dX7_weighSorts_79 : decode cX7_weighSorts 79 = .ok (.getfield 52, 3) := by decide +kernel
theorem dX7_weighSorts_82 : decode cX7_weighSorts 82 = .ok (.iload 6, 2) := by decide +kernel
theorem dX7_weighSorts_84 : decode cX7_weighSorts 84 = .ok (.aload_n 0, 1) := by decide +kernel
theorem dX7_weighSorts_85 : decode cX7_weighSorts 85 = .ok (.getfield 52, 3) := by decide +kernel
theorem dX7_weighSorts_88 : decode cX7_weighSorts 88 = .ok (.iload 6, 2) := by decide +kernel
theorem dX7_weighSorts_90 : decode cX7_weighSorts 90 = .ok (.laload, 1) := by decide +kernel
theorem dX7_weighSorts_91 : decode cX7_weighSorts 91 = .ok (.aload_n 0, 1) := by decide +kernel
theorem dX7_weighSorts_92 : decode cX7_weighSorts 92 = .ok (.getfield 48, 3) := by decide +kernel
theorem dX7_weighSorts_95 : decode cX7_weighSorts 95 = .ok (.aload_n 0, 1) := by decide +kernel
theorem dX7_weighSorts_96 : decode cX7_weighSorts 96 = .ok (.getfield 59, 3) := by decide +kernel
theorem dX7_weighSorts_99 : decode cX7_weighSorts 99 = .ok (.getfield 324, 3) := by decide +kernel
theorem dX7_weighSorts_102 : decode cX7_weighSorts 102 = .ok (.iload_n 3, 1) := by decide +kernel
theorem dX7_weighSorts_103 : decode cX7_weighSorts 103 = .ok (.iaload, 1) := by decide +kernel
theorem dX7_weighSorts_104 : decode cX7_weighSorts 104 = .ok (.aload_n 0, 1) := by decide +kernel
theorem dX7_weighSorts_105 : decode cX7_weighSorts 105 = .ok (.getfield 59, 3) := by decide +kernel
theorem dX7_weighSorts_108 : decode cX7_weighSorts 108 = .ok (.getfield 326, 3) := by decide +kernel
theorem dX7_weighSorts_111 : decode cX7_weighSorts 111 = .ok (.iload_n 3, 1) := by decide +kernel
theorem dX7_weighSorts_112 : decode cX7_weighSorts 112 = .ok (.iaload, 1) := by decide +kernel
theorem dX7_weighSorts_113 : decode cX7_weighSorts 113 = .ok (.invokevirtual 255, 3) := by decide +kernel
theorem dX7_weighSorts_116 : decode cX7_weighSorts 116 = .ok (.i2l, 1) := by decide +kernel
theorem dX7_weighSorts_117 : decode cX7_weighSorts 117 = .ok (.lmul, 1) := by decide +kernel
theorem dX7_weighSorts_118 : decode cX7_weighSorts 118 = .ok (.ldc2_w 329, 3) := by decide +kernel
theorem dX7_weighSorts_121 : decode cX7_weighSorts 121 = .ok (.ldiv, 1) := by decide +kernel
theorem dX7_weighSorts_122 : decode cX7_weighSorts 122 = .ok (.lastore, 1) := by decide +kernel
theorem dX7_weighSorts_123 : decode cX7_weighSorts 123 = .ok (.lload 4, 2) := by decide +kernel
theorem dX7_weighSorts_125 : decode cX7_weighSorts 125 = .ok (.aload_n 0, 1) := by decide +kernel
theorem dX7_weighSorts_126 : decode cX7_weighSorts 126 = .ok (.getfield 52, 3) := by decide +kernel
theorem dX7_weighSorts_129 : decode cX7_weighSorts 129 = .ok (.iload 6, 2) := by decide +kernel
theorem dX7_weighSorts_131 : decode cX7_weighSorts 131 = .ok (.laload, 1) := by decide +kernel
theorem dX7_weighSorts_132 : decode cX7_weighSorts 132 = .ok (.invokestatic 331, 3) := by decide +kernel
theorem dX7_weighSorts_135 : decode cX7_weighSorts 135 = .ok (.lstore 4, 2) := by decide +kernel
theorem dX7_weighSorts_137 : decode cX7_weighSorts 137 = .ok (.iinc 6 1, 3) := by decide +kernel
theorem dX7_weighSorts_140 : decode cX7_weighSorts 140 = .ok (.goto (-96), 3) := by decide +kernel
theorem dX7_weighSorts_143 : decode cX7_weighSorts 143 = .ok (.iconst 0, 1) := by decide +kernel
theorem dX7_weighSorts_144 : decode cX7_weighSorts 144 = .ok (.istore 6, 2) := by decide +kernel
theorem dX7_weighSorts_146 : decode cX7_weighSorts 146 = .ok (.iload 6, 2) := by decide +kernel
theorem dX7_weighSorts_148 : decode cX7_weighSorts 148 = .ok (.aload_n 0, 1) := by decide +kernel
theorem dX7_weighSorts_149 : decode cX7_weighSorts 149 = .ok (.getfield 67, 3) := by decide +kernel
theorem dX7_weighSorts_152 : decode cX7_weighSorts 152 = .ok (.if_icmp .ge 37, 3) := by decide +kernel
theorem dX7_weighSorts_155 : decode cX7_weighSorts 155 = .ok (.lload 4, 2) := by decide +kernel
theorem dX7_weighSorts_157 : decode cX7_weighSorts 157 = .ok (.lconst 0, 1) := by decide +kernel
theorem dX7_weighSorts_158 : decode cX7_weighSorts 158 = .ok (.lcmp, 1) := by decide +kernel
theorem dX7_weighSorts_159 : decode cX7_weighSorts 159 = .ok (.ifCond .le 30, 3) := by decide +kernel
theorem dX7_weighSorts_162 : decode cX7_weighSorts 162 = .ok (.aload_n 0, 1) := by decide +kernel
theorem dX7_weighSorts_163 : decode cX7_weighSorts 163 = .ok (.getfield 52, 3) := by decide +kernel
theorem dX7_weighSorts_166 : decode cX7_weighSorts 166 = .ok (.iload 6, 2) := by decide +kernel
theorem dX7_weighSorts_168 : decode cX7_weighSorts 168 = .ok (.aload_n 0, 1) := by decide +kernel
theorem dX7_weighSorts_169 : decode cX7_weighSorts 169 = .ok (.getfield 52, 3) := by decide +kernel
theorem dX7_weighSorts_172 : decode cX7_weighSorts 172 = .ok (.iload 6, 2) := by decide +kernel
theorem dX7_weighSorts_174 : decode cX7_weighSorts 174 = .ok (.laload, 1) := by decide +kernel
theorem dX7_weighSorts_175 : decode cX7_weighSorts 175 = .ok (.ldc2_w 322, 3) := by decide +kernel
theorem dX7_weighSorts_178 : decode cX7_weighSorts 178 = .ok (.lmul, 1) := by decide +kernel
theorem dX7_weighSorts_179 : decode cX7_weighSorts 179 = .ok (.lload 4, 2) := by decide +kernel
theorem dX7_weighSorts_181 : decode cX7_weighSorts 181 = .ok (.ldiv, 1) := by decide +kernel
theorem dX7_weighSorts_182 : decode cX7_weighSorts 182 = .ok (.lastore, 1) := by decide +kernel
theorem dX7_weighSorts_183 : decode cX7_weighSorts 183 = .ok (.iinc 6 1, 3) := by decide +kernel
theorem dX7_weighSorts_186 : decode cX7_weighSorts 186 = .ok (.goto (-40), 3) := by decide +kernel
theorem dX7_weighSorts_189 : decode cX7_weighSorts 189 = .ok (.iinc 3 1, 3) := by decide +kernel
theorem dX7_weighSorts_192 : decode cX7_weighSorts 192 = .ok (.goto (-165), 3) := by decide +kernel
theorem dX7_weighSorts_195 : decode cX7_weighSorts 195 = .ok (.return_, 1) := by decide +kernel
theorem dX7_painedTrial_0 : decode cX7_painedTrial 0 = .ok (.iconst 0, 1) := by decide +kernel
theorem dX7_painedTrial_1 : decode cX7_painedTrial 1 = .ok (.istore_n 3, 1) := by decide +kernel
theorem dX7_painedTrial_2 : decode cX7_painedTrial 2 = .ok (.iconst 0, 1) := by decide +kernel
theorem dX7_painedTrial_3 : decode cX7_painedTrial 3 = .ok (.istore 4, 2) := by decide +kernel
theorem dX7_painedTrial_5 : decode cX7_painedTrial 5 = .ok (.iload 4, 2) := by decide +kernel
theorem dX7_painedTrial_7 : decode cX7_painedTrial 7 = .ok (.aload_n 0, 1) := by decide +kernel
theorem dX7_painedTrial_8 : decode cX7_painedTrial 8 = .ok (.getfield 67, 3) := by decide +kernel
theorem dX7_painedTrial_11 : decode cX7_painedTrial 11 = .ok (.if_icmp .ge 128, 3) := by decide +kernel
theorem dX7_painedTrial_14 : decode cX7_painedTrial 14 = .ok (.aload_n 0, 1) := by decide +kernel
theorem dX7_painedTrial_15 : decode cX7_painedTrial 15 = .ok (.getfield 81, 3) := by decide +kernel
theorem dX7_painedTrial_18 : decode cX7_painedTrial 18 = .ok (.aload_n 0, 1) := by decide +kernel
theorem dX7_painedTrial_19 : decode cX7_painedTrial 19 = .ok (.getfield 24, 3) := by decide +kernel
theorem dX7_painedTrial_22 : decode cX7_painedTrial 22 = .ok (.iload 4, 2) := by decide +kernel
theorem dX7_painedTrial_24 : decode cX7_painedTrial 24 = .ok (.aaload, 1) := by decide +kernel
theorem dX7_painedTrial_25 : decode cX7_painedTrial 25 = .ok (.aload_n 0, 1) := by decide +kernel
theorem dX7_painedTrial_26 : decode cX7_painedTrial 26 = .ok (.getfield 41, 3) := by decide +kernel
theorem dX7_painedTrial_29 : decode cX7_painedTrial 29 = .ok (.aconst_null, 1) := by decide +kernel
theorem dX7_painedTrial_30 : decode cX7_painedTrial 30 = .ok (.invokevirtual 203, 3) := by decide +kernel
theorem dX7_painedTrial_33 : decode cX7_painedTrial 33 = .ok (.aload_n 0, 1) := by decide +kernel
theorem dX7_painedTrial_34 : decode cX7_painedTrial 34 = .ok (.getfield 81, 3) := by decide +kernel
theorem dX7_painedTrial_37 : decode cX7_painedTrial 37 = .ok (.iload_n 1, 1) := by decide +kernel
theorem dX7_painedTrial_38 : decode cX7_painedTrial 38 = .ok (.invokevirtual 207, 3) := by decide +kernel
theorem dX7_painedTrial_41 : decode cX7_painedTrial 41 = .ok (.aload_n 0, 1) := by decide +kernel
theorem dX7_painedTrial_42 : decode cX7_painedTrial 42 = .ok (.getfield 48, 3) := by decide +kernel
theorem dX7_painedTrial_45 : decode cX7_painedTrial 45 = .ok (.aload_n 0, 1) := by decide +kernel
theorem dX7_painedTrial_46 : decode cX7_painedTrial 46 = .ok (.getfield 81, 3) := by decide +kernel
theorem dX7_painedTrial_49 : decode cX7_painedTrial 49 = .ok (.iload_n 1, 1) := by decide +kernel
theorem dX7_painedTrial_50 : decode cX7_painedTrial 50 = .ok (.invokevirtual 240, 3) := by decide +kernel
theorem dX7_painedTrial_53 : decode cX7_painedTrial 53 = .ok (.aload_n 0, 1) := by decide +kernel
theorem dX7_painedTrial_54 : decode cX7_painedTrial 54 = .ok (.getfield 48, 3) := by decide +kernel
theorem dX7_painedTrial_57 : decode cX7_painedTrial 57 = .ok (.aload_n 0, 1) := by decide +kernel
theorem dX7_painedTrial_58 : decode cX7_painedTrial 58 = .ok (.getfield 41, 3) := by decide +kernel
theorem dX7_painedTrial_61 : decode cX7_painedTrial 61 = .ok (.bipush 10, 2) := by decide +kernel
theorem dX7_painedTrial_63 : decode cX7_painedTrial 63 = .ok (.invokevirtual 244, 3) := by decide +kernel
theorem dX7_painedTrial_66 : decode cX7_painedTrial 66 = .ok (.aload_n 0, 1) := by decide +kernel
theorem dX7_painedTrial_67 : decode cX7_painedTrial 67 = .ok (.getfield 48, 3) := by decide +kernel
theorem dX7_painedTrial_70 : decode cX7_painedTrial 70 = .ok (.aload_n 0, 1) := by decide +kernel
theorem dX7_painedTrial_71 : decode cX7_painedTrial 71 = .ok (.getfield 41, 3) := by decide +kernel
theorem dX7_painedTrial_74 : decode cX7_painedTrial 74 = .ok (.invokevirtual 258, 3) := by decide +kernel
theorem dX7_painedTrial_77 : decode cX7_painedTrial 77 = .ok (.aload_n 0, 1) := by decide +kernel
theorem dX7_painedTrial_78 : decode cX7_painedTrial 78 = .ok (.getfield 48, 3) := by decide +kernel
theorem dX7_painedTrial_81 : decode cX7_painedTrial 81 = .ok (.invokevirtual 262, 3) := by decide +kernel
theorem dX7_painedTrial_84 : decode cX7_painedTrial 84 = .ok (.isub, 1) := by decide +kernel
theorem dX7_painedTrial_85 : decode cX7_painedTrial 85 = .ok (.iload_n 2, 1) := by decide +kernel
theorem dX7_painedTrial_86 : decode cX7_painedTrial 86 = .ok (.if_icmp .ge 5, 3) := by decide +kernel
theorem dX7_painedTrial_89 : decode cX7_painedTrial 89 = .ok (.iconst (-1), 1) := by decide +kernel
theorem dX7_painedTrial_90 : decode cX7_painedTrial 90 = .ok (.ireturn, 1) := by decide +kernel
theorem dX7_painedTrial_91 : decode cX7_painedTrial 91 = .ok (.iconst 0, 1) := by decide +kernel
theorem dX7_painedTrial_92 : decode cX7_painedTrial 92 = .ok (.istore 5, 2) := by decide +kernel
theorem dX7_painedTrial_94 : decode cX7_painedTrial 94 = .ok (.iload 5, 2) := by decide +kernel
theorem dX7_painedTrial_96 : decode cX7_painedTrial 96 = .ok (.aload_n 0, 1) := by decide +kernel
theorem dX7_painedTrial_97 : decode cX7_painedTrial 97 = .ok (.getfield 41, 3) := by decide +kernel
theorem dX7_painedTrial_100 : decode cX7_painedTrial 100 = .ok (.getfield 104, 3) := by decide +kernel
theorem dX7_painedTrial_103 : decode cX7_painedTrial 103 = .ok (.if_icmp .ge 30, 3) := by decide +kernel
theorem dX7_painedTrial_106 : decode cX7_painedTrial 106 = .ok (.iload_n 3, 1) := by decide +kernel
theorem dX7_painedTrial_107 : decode cX7_painedTrial 107 = .ok (.aload_n 0, 1) := by decide +kernel
theorem dX7_painedTrial_108 : decode cX7_painedTrial 108 = .ok (.getfield 81, 3) := by decide +kernel
theorem dX7_painedTrial_111 : decode cX7_painedTrial 111 = .ok (.iload_n 1, 1) := by decide +kernel
theorem dX7_painedTrial_112 : decode cX7_painedTrial 112 = .ok (.iload 5, 2) := by decide +kernel
theorem dX7_painedTrial_114 : decode cX7_painedTrial 114 = .ok (.invokevirtual 194, 3) := by decide +kernel
theorem dX7_painedTrial_117 : decode cX7_painedTrial 117 = .ok (.ifCond .eq 7, 3) := by decide +kernel
theorem dX7_painedTrial_120 : decode cX7_painedTrial 120 = .ok (.iconst 1, 1) := by decide +kernel
theorem dX7_painedTrial_121 : decode cX7_painedTrial 121 = .ok (.goto 4, 3) := by decide +kernel
theorem dX7_painedTrial_124 : decode cX7_painedTrial 124 = .ok (.iconst 0, 1) := by decide +kernel
theorem dX7_painedTrial_125 : decode cX7_painedTrial 125 = .ok (.iadd, 1) := by decide +kernel
theorem dX7_painedTrial_126 : decode cX7_painedTrial 126 = .ok (.istore_n 3, 1) := by decide +kernel
theorem dX7_painedTrial_127 : decode cX7_painedTrial 127 = .ok (.iinc 5 1, 3) := by decide +kernel
theorem dX7_painedTrial_130 : decode cX7_painedTrial 130 = .ok (.goto (-36), 3) := by decide +kernel
theorem dX7_painedTrial_133 : decode cX7_painedTrial 133 = .ok (.iinc 4 1, 3) := by decide +kernel
theorem dX7_painedTrial_136 : decode cX7_painedTrial 136 = .ok (.goto (-131), 3) := by decide +kernel
theorem dX7_painedTrial_139 : decode cX7_painedTrial 139 = .ok (.iload_n 3, 1) := by decide +kernel
theorem dX7_painedTrial_140 : decode cX7_painedTrial 140 = .ok (.ireturn, 1) := by decide +kernel
