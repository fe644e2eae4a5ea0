theorem dX8_work_85 : decode cX8_work 85 = .ok (.iload_n 2, 1) := by decide +kernel
theorem dX8_work_86 : decode cX8_work 86 = .ok (.iaload, 1) := by decide +kernel
theorem dX8_work_87 : decode cX8_work 87 = .ok (.if_icmp .ge 23, 3) := by decide +kernel
theorem dX8_work_90 : decode cX8_work 90 = .ok (.aload_n 0, 1) := by decide +kernel
theorem dX8_work_91 : decode cX8_work 91 = .ok (.getfield 59, 3) := by decide +kernel
theorem dX8_work_94 : decode cX8_work 94 = .ok (.bipush 10, 2) := by decide +kernel
theorem dX8_work_96 : decode cX8_work 96 = .ok (.iload 4, 2) := by decide +kernel
theorem dX8_work_98 : decode cX8_work 98 = .ok (.imul, 1) := by decide +kernel
theorem dX8_work_99 : decode cX8_work 99 = .ok (.iload 5, 2) := by decide +kernel
theorem dX8_work_101 : decode cX8_work 101 = .ok (.iadd, 1) := by decide +kernel
theorem dX8_work_102 : decode cX8_work 102 = .ok (.iconst 0, 1) := by decide +kernel
theorem dX8_work_103 : decode cX8_work 103 = .ok (.iastore, 1) := by decide +kernel
theorem dX8_work_104 : decode cX8_work 104 = .ok (.iinc 5 1, 3) := by decide +kernel
theorem dX8_work_107 : decode cX8_work 107 = .ok (.goto (-28), 3) := by decide +kernel
theorem dX8_work_110 : decode cX8_work 110 = .ok (.iload 4, 2) := by decide +kernel
theorem dX8_work_112 : decode cX8_work 112 = .ok (.iconst 1, 1) := by decide +kernel
theorem dX8_work_113 : decode cX8_work 113 = .ok (.isub, 1) := by decide +kernel
theorem dX8_work_114 : decode cX8_work 114 = .ok (.istore 5, 2) := by decide +kernel
theorem dX8_work_116 : decode cX8_work 116 = .ok (.iload 5, 2) := by decide +kernel
theorem dX8_work_118 : decode cX8_work 118 = .ok (.ifCond .lt 97, 3) := by decide +kernel
theorem dX8_work_121 : decode cX8_work 121 = .ok (.iconst 0, 1) := by decide +kernel
theorem dX8_work_122 : decode cX8_work 122 = .ok (.istore 6, 2) := by decide +kernel
theorem dX8_work_124 : decode cX8_work 124 = .ok (.iload 6, 2) := by decide +kernel
theorem dX8_work_126 : decode cX8_work 126 = .ok (.aload_n 0, 1) := by decide +kernel
theorem dX8_work_127 : decode cX8_work 127 = .ok (.getfield 7, 3) := by decide +kernel
theorem dX8_work_130 : decode cX8_work 130 = .ok (.iload_n 2, 1) := by decide +kernel
theorem dX8_work_131 : decode cX8_work 131 = .ok (.iaload, 1) := by decide +kernel
theorem dX8_work_132 : decode cX8_work 132 = .ok (.if_icmp .ge 77, 3) := by decide +kernel
theorem dX8_work_135 : decode cX8_work 135 = .ok (.aload_n 0, 1) := by decide +kernel
theorem dX8_work_136 : decode cX8_work 136 = .ok (.iconst 0, 1) := by decide +kernel
theorem dX8_work_137 : decode cX8_work 137 = .ok (.iload 5, 2) := by decide +kernel
theorem dX8_work_139 : decode cX8_work 139 = .ok (.iload 6, 2) := by decide +kernel
theorem dX8_work_141 : decode cX8_work 141 = .ok (.invokevirtual 298, 3) := by decide +kernel
theorem dX8_work_144 : decode cX8_work 144 = .ok (.aload_n 0, 1) := by decide +kernel
theorem dX8_work_145 : decode cX8_work 145 = .ok (.invokevirtual 285, 3) := by decide +kernel
theorem dX8_work_148 : decode cX8_work 148 = .ok (.ifCond .eq 12, 3) := by decide +kernel
theorem dX8_work_151 : decode cX8_work 151 = .ok (.aload_n 0, 1) := by decide +kernel
theorem dX8_work_152 : decode cX8_work 152 = .ok (.iconst 1, 1) := by decide +kernel
theorem dX8_work_153 : decode cX8_work 153 = .ok (.iload 5, 2) := by decide +kernel
theorem dX8_work_155 : decode cX8_work 155 = .ok (.iload 6, 2) := by decide +kernel
theorem dX8_work_157 : decode cX8_work 157 = .ok (.invokevirtual 298, 3) := by decide +kernel
theorem dX8_work_160 : decode cX8_work 160 = .ok (.aload_n 0, 1) := by decide +kernel
theorem dX8_work_161 : decode cX8_work 161 = .ok (.getfield 59, 3) := by decide +kernel
theorem dX8_work_164 : decode cX8_work 164 = .ok (.bipush 10, 2) := by decide +kernel
theorem dX8_work_166 : decode cX8_work 166 = .ok (.iload 5, 2) := by decide +kernel
theorem dX8_work_168 : decode cX8_work 168 = .ok (.imul, 1) := by decide +kernel
theorem dX8_work_169 : decode cX8_work 169 = .ok (.iload 6, 2) := by decide +kernel
theorem dX8_work_171 : decode cX8_work 171 = .ok (.iadd, 1) := by decide +kernel
theorem dX8_work_172 : decode cX8_work 172 = .ok (.aload_n 0, 1) := by decide +kernel
theorem dX8_work_173 : decode cX8_work 173 = .ok (.iload 5, 2) := by decide +kernel
theorem dX8_work_175 : decode cX8_work 175 = .ok (.iload 6, 2) := by decide +kernel
theorem dX8_work_177 : decode cX8_work 177 = .ok (.invokevirtual 302, 3) := by decide +kernel
theorem dX8_work_180 : decode cX8_work 180 = .ok (.ifCond .eq 14, 3) := by decide +kernel
theorem dX8_work_183 : decode cX8_work 183 = .ok (.aload_n 0, 1) := by decide +kernel
theorem dX8_work_184 : decode cX8_work 184 = .ok (.iload 5, 2) := by decide +kernel
theorem dX8_work_186 : decode cX8_work 186 = .ok (.iload 6, 2) := by decide +kernel
theorem dX8_work_188 : decode cX8_work 188 = .ok (.invokevirtual 289, 3) := by decide +kernel
theorem dX8_work_191 : decode cX8_work 191 = .ok (.goto 11, 3) := by decide +kernel
theorem dX8_work_194 : decode cX8_work 194 = .ok (.aload_n 0, 1) := by decide +kernel
theorem dX8_work_195 : decode cX8_work 195 = .ok (.iload 5, 2) := by decide +kernel
theorem dX8_work_197 : decode cX8_work 197 = .ok (.iload 6, 2) := by decide +kernel
theorem dX8_work_199 : decode cX8_work 199 = .ok (.invokevirtual 292, 3) := by decide +kernel
theorem dX8_work_202 : decode cX8_work 202 = .ok (.iastore, 1) := by decide +kernel
theorem dX8_work_203 : decode cX8_work 203 = .ok (.iinc 6 1, 3) := by decide +kernel
theorem dX8_work_206 : decode cX8_work 206 = .ok (.goto (-82), 3) := by decide +kernel
theorem dX8_work_209 : decode cX8_work 209 = .ok (.iinc 5 (-1), 3) := by decide +kernel
theorem dX8_work_212 : decode cX8_work 212 = .ok (.goto (-96), 3) := by decide +kernel
theorem dX8_work_215 : decode cX8_work 215 = .ok (.return_, 1) := by decide +kernel
theorem dX8_cost_0 : decode cX8_cost 0 = .ok (.aload_n 0, 1) := by decide +kernel
theorem dX8_cost_1 : decode cX8_cost 1 = .ok (.iload_n 1, 1) := by decide +kernel
theorem dX8_cost_2 : decode cX8_cost 2 = .ok (.invokevirtual 235, 3) := by decide +kernel
theorem dX8_cost_5 : decode cX8_cost 5 = .ok (.ifCond .eq 13, 3) := by decide +kernel
theorem dX8_cost_8 : decode cX8_cost 8 = .ok (.aload_n 0, 1) := by decide +kernel
theorem dX8_cost_9 : decode cX8_cost 9 = .ok (.iload_n 2, 1) := by decide +kernel
theorem dX8_cost_10 : decode cX8_cost 10 = .ok (.iload 5, 2) := by decide +kernel
theorem dX8_cost_12 : decode cX8_cost 12 = .ok (.invokevirtual 209, 3) := by decide +kernel
theorem dX8_cost_15 : decode cX8_cost 15 = .ok (.ifCond .ne 6, 3) := by decide +kernel
theorem dX8_cost_18 : decode cX8_cost 18 = .ok (.ldc 197, 2) := by decide +kernel
theorem dX8_cost_20 : decode cX8_cost 20 = .ok (.ireturn, 1) := by decide +kernel
theorem dX8_cost_21 : decode cX8_cost 21 = .ok (.iload_n 3, 1) := by decide +kernel
theorem dX8_cost_22 : decode cX8_cost 22 = .ok (.invokestatic 305, 3) := by decide +kernel
theorem dX8_cost_25 : decode cX8_cost 25 = .ok (.ifCond .eq 15, 3) := by decide +kernel
theorem dX8_cost_28 : decode cX8_cost 28 = .ok (.iload 4, 2) := by decide +kernel
theorem dX8_cost_30 : decode cX8_cost 30 = .ok (.i2l, 1) := by decide +kernel
theorem dX8_cost_31 : decode cX8_cost 31 = .ok (.lconst 0, 1) := by decide +kernel
theorem dX8_cost_32 : decode cX8_cost 32 = .ok (.iload_n 3, 1) := by decide +kernel
theorem dX8_cost_33 : decode cX8_cost 33 = .ok (.i2l, 1) := by decide +kernel
theorem dX8_cost_34 : decode cX8_cost 34 = .ok (.invokestatic 109, 3) := by decide +kernel
theorem dX8_cost_37 : decode cX8_cost 37 = .ok (.ifCond .ne 6, 3) := by decide +kernel
theorem dX8_cost_40 : decode cX8_cost 40 = .ok (.ldc 121, 2) := by decide +kernel
theorem dX8_cost_42 : decode cX8_cost 42 = .ok (.ireturn, 1) := by decide +kernel
theorem dX8_cost_43 : decode cX8_cost 43 = .ok (.aload_n 0, 1) := by decide +kernel
theorem dX8_cost_44 : decode cX8_cost 44 = .ok (.iload_n 1, 1) := by decide +kernel
theorem dX8_cost_45 : decode cX8_cost 45 = .ok (.iload_n 2, 1) := by decide +kernel
theorem dX8_cost_46 : decode cX8_cost 46 = .ok (.iconst (-1), 1) := by decide +kernel
theorem dX8_cost_47 : decode cX8_cost 47 = .ok (.iload_n 3, 1) := by decide +kernel
theorem dX8_cost_48 : decode cX8_cost 48 = .ok (.invokevirtual 308, 3) := by decide +kernel
theorem dX8_cost_51 : decode cX8_cost 51 = .ok (.aload_n 0, 1) := by decide +kernel
theorem dX8_cost_52 : decode cX8_cost 52 = .ok (.getfield 59, 3) := by decide +kernel
theorem dX8_cost_55 : decode cX8_cost 55 = .ok (.bipush 10, 2) := by decide +kernel
theorem dX8_cost_57 : decode cX8_cost 57 = .ok (.iload 4, 2) := by decide +kernel
theorem dX8_cost_59 : decode cX8_cost 59 = .ok (.imul, 1) := by decide +kernel
theorem dX8_cost_60 : decode cX8_cost 60 = .ok (.iload 5, 2) := by decide +kernel
theorem dX8_cost_62 : decode cX8_cost 62 = .ok (.iadd, 1) := by decide +kernel
theorem dX8_cost_63 : decode cX8_cost 63 = .ok (.iaload, 1) := by decide +kernel
theorem dX8_cost_64 : decode cX8_cost 64 = .ok (.ireturn, 1) := by decide +kernel
theorem dX8_isWhen_0 : decode cX8_isWhen 0 = .ok (.iload_n 1, 1) := by decide +kernel
theorem dX8_isWhen_1 : decode cX8_isWhen 1 = .ok (.invokestatic 305, 3) := by decide +kernel
theorem dX8_isWhen_4 : decode cX8_isWhen 4 = .ok (.ifCond .eq 20, 3) := by decide +kernel
theorem dX8_isWhen_7 : decode cX8_isWhen 7 = .ok (.iload_n 2, 1) := by decide +kernel
theorem dX8_isWhen_8 : decode cX8_isWhen 8 = .ok (.i2l, 1) := by decide +kernel
theorem dX8_isWhen_9 : decode cX8_isWhen 9 = .ok (.lconst 0, 1) := by decide +kernel
theorem dX8_isWhen_10 : decode cX8_isWhen 10 = .ok (.iload_n 1, 1) := by decide +kernel
theorem dX8_isWhen_11 : decode cX8_isWhen 11 = .ok (.iconst 1, 1) := by decide +kernel
theorem dX8_isWhen_12 : decode cX8_isWhen 12 = .ok (.isub, 1) := by decide +kernel
theorem dX8_isWhen_13 : decode cX8_isWhen 13 = .ok (.i2l, 1) := by decide +kernel
theorem dX8_isWhen_14 : decode cX8_isWhen 14 = .ok (.invokestatic 109, 3) := by decide +kernel
theorem dX8_isWhen_17 : decode cX8_isWhen 17 = .ok (.ifCond .eq 7, 3) := by decide +kernel
theorem dX8_isWhen_20 : decode cX8_isWhen 20 = .ok (.iconst 1, 1) := by decide +kernel
theorem dX8_isWhen_21 : decode cX8_isWhen 21 = .ok (.goto 4, 3) := by decide +kernel
theorem dX8_isWhen_24 : decode cX8_isWhen 24 = .ok (.iconst 0, 1) := by decide +kernel
theorem dX8_isWhen_25 : decode cX8_isWhen 25 = .ok (.ireturn, 1) := by decide +kernel
theorem dX8_painOf_0 : decode cX8_painOf 0 = .ok (.iload_n 1, 1) := by decide +kernel
theorem dX8_painOf_1 : decode cX8_painOf 1 = .ok (.ifCond .eq 19, 3) := by decide +kernel
theorem dX8_painOf_4 : decode cX8_painOf 4 = .ok (.aload_n 0, 1) := by decide +kernel
theorem dX8_painOf_5 : decode cX8_painOf 5 = .ok (.getfield 40, 3) := by decide +kernel
theorem dX8_painOf_8 : decode cX8_painOf 8 = .ok (.aload_n 0, 1) := by decide +kernel
theorem dX8_painOf_9 : decode cX8_painOf 9 = .ok (.getfield 278, 3) := by decide +kernel
theorem dX8_painOf_12 : decode cX8_painOf 12 = .ok (.iaload, 1) := by decide +kernel
theorem dX8_painOf_13 : decode cX8_painOf 13 = .ok (.ifCond .lt 7, 3) := by decide +kernel
theorem dX8_painOf_16 : decode cX8_painOf 16 = .ok (.iconst 1, 1) := by decide +kernel
theorem dX8_painOf_17 : decode cX8_painOf 17 = .ok (.goto 4, 3) := by decide +kernel
theorem dX8_painOf_20 : decode cX8_painOf 20 = .ok (.iconst 0, 1) := by decide +kernel
theorem dX8_painOf_21 : decode cX8_painOf 21 = .ok (.ireturn, 1) := by decide +kernel
theorem dX8_in_0 : decode cX8_in 0 = .ok (.aload_n 0, 1) := by decide +kernel
theorem dX8_in_1 : decode cX8_in 1 = .ok (.iload_n 1, 1) := by decide +kernel
theorem dX8_in_2 : decode cX8_in 2 = .ok (.invokevirtual 235, 3) := by decide +kernel
theorem dX8_in_5 : decode cX8_in 5 = .ok (.ifCond .eq 13, 3) := by decide +kernel
theorem dX8_in_8 : decode cX8_in 8 = .ok (.aload_n 0, 1) := by decide +kernel
theorem dX8_in_9 : decode cX8_in 9 = .ok (.iload_n 2, 1) := by decide +kernel
theorem dX8_in_10 : decode cX8_in 10 = .ok (.iload 5, 2) := by decide +kernel
theorem dX8_in_12 : decode cX8_in 12 = .ok (.invokevirtual 209, 3) := by decide +kernel
theorem dX8_in_15 : decode cX8_in 15 = .ok (.ifCond .ne 6, 3) := by decide +kernel
theorem dX8_in_18 : decode cX8_in 18 = .ok (.ldc 197, 2) := by decide +kernel
theorem dX8_in_20 : decode cX8_in 20 = .ok (.ireturn, 1) := by decide +kernel
theorem dX8_in_21 : decode cX8_in 21 = .ok (.aload_n 0, 1) := by decide +kernel
theorem dX8_in_22 : decode cX8_in 22 = .ok (.iload_n 3, 1) := by decide +kernel
theorem dX8_in_23 : decode cX8_in 23 = .ok (.iload 4, 2) := by decide +kernel
theorem dX8_in_25 : decode cX8_in 25 = .ok (.invokevirtual 312, 3) := by decide +kernel
theorem dX8_in_28 : decode cX8_in 28 = .ok (.ifCond .eq 29, 3) := by decide +kernel
theorem dX8_in_31 : decode cX8_in 31 = .ok (.iload 6, 2) := by decide +kernel
theorem dX8_in_33 : decode cX8_in 33 = .ok (.i2l, 1) := by decide +kernel
theorem dX8_in_34 : decode cX8_in 34 = .ok (.lconst 0, 1) := by decide +kernel
theorem dX8_in_35 : decode cX8_in 35 = .ok (.ldc2_w 315, 3) := by decide +kernel
theorem dX8_in_38 : decode cX8_in 38 = .ok (.invokestatic 109, 3) := by decide +kernel
theorem dX8_in_41 : decode cX8_in 41 = .ok (.ifCond .eq 16, 3) := by decide +kernel
theorem dX8_in_44 : decode cX8_in 44 = .ok (.iload 7, 2) := by decide +kernel
theorem dX8_in_46 : decode cX8_in 46 = .ok (.i2l, 1) := by decide +kernel
theorem dX8_in_47 : decode cX8_in 47 = .ok (.lconst 0, 1) := by decide +kernel
theorem dX8_in_48 : decode cX8_in 48 = .ok (.ldc2_w 212, 3) := by decide +kernel
theorem dX8_in_51 : decode cX8_in 51 = .ok (.invokestatic 109, 3) := by decide +kernel
theorem dX8_in_54 : decode cX8_in 54 = .ok (.ifCond .ne 6, 3) := by decide +kernel
theorem dX8_in_57 : decode cX8_in 57 = .ok (.ldc 121, 2) := by decide +kernel
theorem dX8_in_59 : decode cX8_in 59 = .ok (.ireturn, 1) := by decide +kernel
theorem dX8_in_60 : decode cX8_in 60 = .ok (.aload_n 0, 1) := by decide +kernel
theorem dX8_in_61 : decode cX8_in 61 = .ok (.iload_n 1, 1) := by decide +kernel
theorem dX8_in_62 : decode cX8_in 62 = .ok (.iload_n 2, 1) := by decide +kernel
theorem dX8_in_63 : decode cX8_in 63 = .ok (.iconst (-1), 1) := by decide +kernel
theorem dX8_in_64 : decode cX8_in 64 = .ok (.iload_n 3, 1) := by decide +kernel
theorem dX8_in_65 : decode cX8_in 65 = .ok (.invokevirtual 308, 3) := by decide +kernel
theorem dX8_in_68 : decode cX8_in 68 = .ok (.aload_n 0, 1) := by decide +kernel
theorem dX8_in_69 : decode cX8_in 69 = .ok (.getfield 62, 3) := by decide +kernel
theorem dX8_in_72 : decode cX8_in 72 = .ok (.aload_n 0, 1) := by decide +kernel
theorem dX8_in_73 : decode cX8_in 73 = .ok (.iload 8, 2) := by decide +kernel
theorem dX8_in_75 : decode cX8_in 75 = .ok (.invokevirtual 317, 3) := by decide +kernel
theorem dX8_in_78 : decode cX8_in 78 = .ok (.iload 4, 2) := by decide +kernel
theorem dX8_in_80 : decode cX8_in 80 = .ok (.iload 5, 2) := by decide +kernel
theorem dX8_in_82 : decode cX8_in 82 = .ok (.iload 6, 2) := by decide +kernel
theorem dX8_in_84 : decode cX8_in 84 = .ok (.iload 7, 2) := by decide +kernel
theorem dX8_in_86 : decode cX8_in 86 = .ok (.invokestatic 272, 3) := by decide +kernel
theorem dX8_in_89 : decode cX8_in 89 = .ok (.iaload, 1) := by decide +kernel
theorem dX8_in_90 : decode cX8_in 90 = .ok (.ireturn, 1) := by decide +kernel
theorem dX8_takes_0 : decode cX8_takes 0 = .ok (.aload_n 0, 1) := by decide +kernel
theorem dX8_takes_1 : decode cX8_takes 1 = .ok (.iload_n 1, 1) := by decide +kernel
theorem dX8_takes_2 : decode cX8_takes 2 = .ok (.invokevirtual 235, 3) := by decide +kernel
theorem dX8_takes_5 : decode cX8_takes 5 = .ok (.ifCond .eq 13, 3) := by decide +kernel
theorem dX8_takes_8 : decode cX8_takes 8 = .ok (.aload_n 0, 1) := by decide +kernel
theorem dX8_takes_9 : decode cX8_takes 9 = .ok (.iload_n 2, 1) := by decide +kernel
theorem dX8_takes_10 : decode cX8_takes 10 = .ok (.iload 5, 2) := by decide +kernel
theorem dX8_takes_12 : decode cX8_takes 12 = .ok (.invokevirtual 209, 3) := by decide +kernel
theorem dX8_takes_15 : decode cX8_takes 15 = .ok (.ifCond .ne 6, 3) := by decide +kernel
theorem dX8_takes_18 : decode cX8_takes 18 = .ok (.ldc 197, 2) := by decide +kernel
theorem dX8_takes_20 : decode cX8_takes 20 = .ok (.ireturn, 1) := by decide +kernel
theorem dX8_takes_21 : decode cX8_takes 21 = .ok (.aload_n 0, 1) := by decide +kernel
theorem dX8_takes_22 : decode cX8_takes 22 = .ok (.iload_n 3, 1) := by decide +kernel
theorem dX8_takes_23 : decode cX8_takes 23 = .ok (.iload 4, 2) := by decide +kernel
theorem dX8_takes_25 : decode cX8_takes 25 = .ok (.invokevirtual 312, 3) := by decide +kernel
theorem dX8_takes_28 : decode cX8_takes 28 = .ok (.ifCond .ne 6, 3) := by decide +kernel
theorem dX8_takes_31 : decode cX8_takes 31 = .ok (.ldc 121, 2) := by decide +kernel
theorem dX8_takes_33 : decode cX8_takes 33 = .ok (.ireturn, 1) := by decide +kernel
theorem dX8_takes_34 : decode cX8_takes 34 = .ok (.aload_n 0, 1) := by decide +kernel
theorem dX8_takes_35 : decode cX8_takes 35 = .ok (.iload_n 1, 1) := by decide +kernel
theorem dX8_takes_36 : decode cX8_takes 36 = .ok (.iload_n 2, 1) := by decide +kernel
theorem dX8_takes_37 : decode cX8_takes 37 = .ok (.iconst (-1), 1) := by decide +kernel
theorem dX8_takes_38 : decode cX8_takes 38 = .ok (.iload_n 3, 1) := by decide +kernel
theorem dX8_takes_39 : decode cX8_takes 39 = .ok (.invokevirtual 308, 3) := by decide +kernel
theorem dX8_takes_42 : decode cX8_takes 42 = .ok (.aload_n 0, 1) := by decide +kernel
theorem dX8_takes_43 : decode cX8_takes 43 = .ok (.iload 4, 2) := by decide +kernel
theorem dX8_takes_45 : decode cX8_takes 45 = .ok (.iload 5, 2) := by decide +kernel
theorem dX8_takes_47 : decode cX8_takes 47 = .ok (.invokevirtual 302, 3) := by decide +kernel
theorem dX8_takes_50 : decode cX8_takes 50 = .ok (.ifCond .eq 7, 3) := by decide +kernel
theorem dX8_takes_53 : decode cX8_takes 53 = .ok (.iconst 1, 1) := by decide +kernel
theorem dX8_takes_54 : decode cX8_takes 54 = .ok (.goto 4, 3) := by decide +kernel
theorem dX8_takes_57 : decode cX8_takes 57 = .ok (.iconst 0, 1) := by decide +kernel
theorem dX8_takes_58 : decode cX8_takes 58 = .ok (.ireturn, 1) := by decide +kernel
theorem dX8_bar_0 : decode cX8_bar 0 = .ok (.aload_n 0, 1) := by decide +kernel
theorem dX8_bar_1 : decode cX8_bar 1 = .ok (.iload_n 1, 1) := by decide +kernel
theorem dX8_bar_2 : decode cX8_bar 2 = .ok (.invokevirtual 235, 3) := by decide +kernel
theorem dX8_bar_5 : decode cX8_bar 5 = .ok (.ifCond .eq 13, 3) := by decide +kernel
theorem dX8_bar_8 : decode cX8_bar 8 = .ok (.aload_n 0, 1) := by decide +kernel
theorem dX8_bar_9 : decode cX8_bar 9 = .ok (.iload_n 2, 1) := by decide +kernel
theorem dX8_bar_10 : decode cX8_bar 10 = .ok (.iload 5, 2) := by decide +kernel
theorem dX8_bar_12 : decode cX8_bar 12 = .ok (.invokevirtual 209, 3) := by decide +kernel
theorem dX8_bar_15 : decode cX8_bar 15 = .ok (.ifCond .ne 6, 3) := by decide +kernel
theorem dX8_bar_18 : decode cX8_bar 18 = .ok (.ldc 197, 2) := by decide +kernel
theorem dX8_bar_20 : decode cX8_bar 20 = .ok (.ireturn, 1) := by decide +kernel
theorem dX8_bar_21 : decode cX8_bar 21 = .ok (.aload_n 0, 1) := by decide +kernel
theorem dX8_bar_22 : decode cX8_bar 22 = .ok (.iload_n 3, 1) := by decide +kernel
theorem dX8_bar_23 : decode cX8_bar 23 = .ok (.iload 4, 2) := by decide +kernel
theorem dX8_bar_25 : decode cX8_bar 25 = .ok (.invokevirtual 312, 3) := by decide +kernel
theorem dX8_bar_28 : decode cX8_bar 28 = .ok (.ifCond .eq 29, 3) := by decide +kernel
theorem dX8_bar_31 : decode cX8_bar 31 = .ok (.iload 6, 2) := by decide +kernel
theorem dX8_bar_33 : decode cX8_bar 33 = .ok (.i2l, 1) := by decide +kernel
theorem dX8_bar_34 : decode cX8_bar 34 = .ok (.lconst 0, 1) := by decide +kernel
theorem dX8_bar_35 : decode cX8_bar 35 = .ok (.ldc2_w 321, 3) := by decide +kernel
theorem dX8_bar_38 : decode cX8_bar 38 = .ok (.invokestatic 109, 3) := by decide +kernel
theorem dX8_bar_41 : decode cX8_bar 41 = .ok (.ifCond .eq 16, 3) := by decide +kernel
theorem dX8_bar_44 : decode cX8_bar 44 = .ok (.iload 7, 2) := by decide +kernel
theorem dX8_bar_46 : decode cX8_bar 46 = .ok (.i2l, 1) := by decide +kernel
theorem dX8_bar_47 : decode cX8_bar 47 = .ok (.lconst 0, 1) := by decide +kernel
theorem dX8_bar_48 : decode cX8_bar 48 = .ok (.ldc2_w 212, 3) := by decide +kernel
theorem dX8_bar_51 : decode cX8_bar 51 = .ok (.invokestatic 109, 3) := by decide +kernel
theorem dX8_bar_54 : decode cX8_bar 54 = .ok (.ifCond .ne 6, 3) := by decide +kernel
theorem dX8_bar_57 : decode cX8_bar 57 = .ok (.ldc 121, 2) := by decide +kernel
theorem dX8_bar_59 : decode cX8_bar 59 = .ok (.ireturn, 1) := by decide +kernel
theorem dX8_bar_60 : decode cX8_bar 60 = .ok (.aload_n 0, 1) := by decide +kernel
theorem dX8_bar_61 : decode cX8_bar 61 = .ok (.iload_n 1, 1) := by decide +kernel
theorem dX8_bar_62 : decode cX8_bar 62 = .ok (.iload_n 2, 1) := by decide +kernel
theorem dX8_bar_63 : decode cX8_bar 63 = .ok (.iconst (-1), 1) := by decide +kernel
theorem dX8_bar_64 : decode cX8_bar 64 = .ok (.iload_n 3, 1) := by decide +kernel
theorem dX8_bar_65 : decode cX8_bar 65 = .ok (.invokevirtual 308, 3) := by decide +kernel
theorem dX8_bar_68 : decode cX8_bar 68 = .ok (.iconst 0, 1) := by decide +kernel
theorem dX8_bar_69 : decode cX8_bar 69 = .ok (.istore 9, 2) := by decide +kernel
theorem dX8_bar_71 : decode cX8_bar 71 = .ok (.iload 9, 2) := by decide +kernel
theorem dX8_bar_73 : decode cX8_bar 73 = .ok (.aload_n 0, 1) := by decide +kernel
theorem dX8_bar_74 : decode cX8_bar 74 = .ok (.getfield 31, 3) := by decide +kernel
theorem dX8_bar_77 : decode cX8_bar 77 = .ok (.iload_n 1, 1) := by decide +kernel
theorem dX8_bar_78 : decode cX8_bar 78 = .ok (.iaload, 1) := by decide +kernel
theorem dX8_bar_79 : decode cX8_bar 79 = .ok (.if_icmp .ge 55, 3) := by decide +kernel
theorem dX8_bar_82 : decode cX8_bar 82 = .ok (.aload_n 0, 1) := by decide +kernel
theorem dX8_bar_83 : decode cX8_bar 83 = .ok (.aload_n 0, 1) := by decide +kernel
theorem dX8_bar_84 : decode cX8_bar 84 = .ok (.iload 8, 2) := by decide +kernel
theorem dX8_bar_86 : decode cX8_bar 86 = .ok (.invokevirtual 317, 3) := by decide +kernel
theorem dX8_bar_89 : decode cX8_bar 89 = .ok (.iload 4, 2) := by decide +kernel
theorem dX8_bar_91 : decode cX8_bar 91 = .ok (.iload 5, 2) := by decide +kernel
theorem dX8_bar_93 : decode cX8_bar 93 = .ok (.iload 6, 2) := by decide +kernel
theorem dX8_bar_95 : decode cX8_bar 95 = .ok (.iload 7, 2) := by decide +kernel
theorem dX8_bar_97 : decode cX8_bar 97 = .ok (.aload_n 0, 1) := by decide +kernel
theorem dX8_bar_98 : decode cX8_bar 98 = .ok (.getfield 34, 3) := by decide +kernel
theorem dX8_bar_101 : decode cX8_bar 101 = .ok (.bipush 8, 2) := by decide +kernel
theorem dX8_bar_103 : decode cX8_bar 103 = .ok (.iload_n 1, 1) := by decide +kernel
theorem dX8_bar_104 : decode cX8_bar 104 = .ok (.imul, 1) := by decide +kernel
theorem dX8_bar_105 : decode cX8_bar 105 = .ok (.iload 9, 2) := by decide +kernel
theorem dX8_bar_107 : decode cX8_bar 107 = .ok (.iadd, 1) := by decide +kernel
theorem dX8_bar_108 : decode cX8_bar 108 = .ok (.iaload, 1) := by decide +kernel
theorem dX8_bar_109 : decode cX8_bar 109 = .ok (.invokevirtual 281, 3) := by decide +kernel
theorem dX8_bar_112 : decode cX8_bar 112 = .ok (.ifCond .eq 16, 3) := by decide +kernel
theorem dX8_bar_115 : decode cX8_bar 115 = .ok (.aload_n 0, 1) := by decide +kernel
theorem dX8_bar_116 : decode cX8_bar 116 = .ok (.getfield 34, 3) := by decide +kernel
theorem dX8_bar_119 : decode cX8_bar 119 = .ok (.bipush 8, 2) := by decide +kernel
theorem dX8_bar_121 : decode cX8_bar 121 = .ok (.iload_n 1, 1) := by decide +kernel
theorem dX8_bar_122 : decode cX8_bar 122 = .ok (.imul, 1) := by decide +kernel
theorem dX8_bar_123 : decode cX8_bar 123 = .ok (.iload 9, 2) := by decide +kernel
theorem dX8_bar_125 : decode cX8_bar 125 = .ok (.iadd, 1) := by decide +kernel
theorem dX8_bar_126 : decode cX8_bar 126 = .ok (.iaload, 1) := by decide +kernel
theorem dX8_bar_127 : decode cX8_bar 127 = .ok (.ireturn, 1) := by decide +kernel
theorem dX8_bar_128 : decode cX8_bar 128 = .ok (.iinc 9 1, 3) := by decide +kernel
theorem dX8_bar_131 : decode cX8_bar 131 = .ok (.goto (-60), 3) := by decide +kernel
theorem dX8_bar_134 : decode cX8_bar 134 = .ok (.iconst (-1), 1) := by decide +kernel
theorem dX8_bar_135 : decode cX8_bar 135 = .ok (.ireturn, 1) := by decide +kernel
theorem dX8_fixed_0 : decode cX8_fixed 0 = .ok (.aload_n 0, 1) := by decide +kernel
theorem dX8_fixed_1 : decode cX8_fixed 1 = .ok (.iload_n 1, 1) := by decide +kernel
theorem dX8_fixed_2 : decode cX8_fixed 2 = .ok (.invokevirtual 323, 3) := by decide +kernel
theorem dX8_fixed_5 : decode cX8_fixed 5 = .ok (.ifCond .eq 21, 3) := by decide +kernel
theorem dX8_fixed_8 : decode cX8_fixed 8 = .ok (.aload_n 0, 1) := by decide +kernel
theorem dX8_fixed_9 : decode cX8_fixed 9 = .ok (.iload_n 2, 1) := by decide +kernel
theorem dX8_fixed_10 : decode cX8_fixed 10 = .ok (.invokevirtual 235, 3) := by decide +kernel
theorem dX8_fixed_13 : decode cX8_fixed 13 = .ok (.ifCond .eq 13, 3) := by decide +kernel
theorem dX8_fixed_16 : decode cX8_fixed 16 = .ok (.aload_n 0, 1) := by decide +kernel
theorem dX8_fixed_17 : decode cX8_fixed 17 = .ok (.iload_n 3, 1) := by decide +kernel
theorem dX8_fixed_18 : decode cX8_fixed 18 = .ok (.iload 6, 2) := by decide +kernel
theorem dX8_fixed_20 : decode cX8_fixed 20 = .ok (.invokevirtual 209, 3) := by decide +kernel
theorem dX8_fixed_23 : decode cX8_fixed 23 = .ok (.ifCond .ne 6, 3) := by decide +kernel
theorem dX8_fixed_26 : decode cX8_fixed 26 = .ok (.ldc 197, 2) := by decide +kernel
theorem dX8_fixed_28 : decode cX8_fixed 28 = .ok (.ireturn, 1) := by decide +kernel
theorem dX8_fixed_29 : decode cX8_fixed 29 = .ok (.iload 4, 2) := by decide +kernel
theorem dX8_fixed_31 : decode cX8_fixed 31 = .ok (.invokestatic 305, 3) := by decide +kernel
theorem dX8_fixed_34 : decode cX8_fixed 34 = .ok (.ifCond .eq 16, 3) := by decide +kernel
theorem dX8_fixed_37 : decode cX8_fixed 37 = .ok (.iload 5, 2) := by decide +kernel
theorem dX8_fixed_39 : decode cX8_fixed 39 = .ok (.i2l, 1) := by decide +kernel
theorem dX8_fixed_40 : decode cX8_fixed 40 = .ok (.lconst 0, 1) := by decide +kernel
theorem dX8_fixed_41 : decode cX8_fixed 41 = .ok (.iload 4, 2) := by decide +kernel
theorem dX8_fixed_43 : decode cX8_fixed 43 = .ok (.i2l, 1) := by decide +kernel
theorem dX8_fixed_44 : decode cX8_fixed 44 = .ok (.invokestatic 109, 3) := by decide +kernel
theorem dX8_fixed_47 : decode cX8_fixed 47 = .ok (.ifCond .ne 6, 3) := by decide +kernel
theorem dX8_fixed_50 : decode cX8_fixed 50 = .ok (.ldc 121, 2) := by decide +kernel
theorem dX8_fixed_52 : decode cX8_fixed 52 = .ok (.ireturn, 1) := by decide +kernel
theorem dX8_fixed_53 : decode cX8_fixed 53 = .ok (.aload_n 0, 1) := by decide +kernel
theorem dX8_fixed_54 : decode cX8_fixed 54 = .ok (.iload_n 2, 1) := by decide +kernel
theorem dX8_fixed_55 : decode cX8_fixed 55 = .ok (.iload_n 3, 1) := by decide +kernel
theorem dX8_fixed_56 : decode cX8_fixed 56 = .ok (.iload_n 1, 1) := by decide +kernel
theorem dX8_fixed_57 : decode cX8_fixed 57 = .ok (.iload 4, 2) := by decide +kernel
theorem dX8_fixed_59 : decode cX8_fixed 59 = .ok (.invokevirtual 308, 3) := by decide +kernel
theorem dX8_fixed_62 : decode cX8_fixed 62 = .ok (.aload_n 0, 1) := by decide +kernel
theorem dX8_fixed_63 : decode cX8_fixed 63 = .ok (.getfield 59, 3) := by decide +kernel
theorem dX8_fixed_66 : decode cX8_fixed 66 = .ok (.bipush 10, 2) := by decide +kernel
theorem dX8_fixed_68 : decode cX8_fixed 68 = .ok (.iload 5, 2) := by decide +kernel
theorem dX8_fixed_70 : decode cX8_fixed 70 = .ok (.imul, 1) := by decide +kernel
theorem dX8_fixed_71 : decode cX8_fixed 71 = .ok (.iload 6, 2) := by decide +kernel
theorem dX8_fixed_73 : decode cX8_fixed 73 = .ok (.iadd, 1) := by decide +kernel
theorem dX8_fixed_74 : decode cX8_fixed 74 = .ok (.iaload, 1) := by decide +kernel
theorem dX8_fixed_75 : decode cX8_fixed 75 = .ok (.ireturn, 1) := by decide +kernel
theorem dX8_scrape_0 : decode cX8_scrape 0 = .ok (.iload_n 1, 1) := by decide +kernel
theorem dX8_scrape_1 : decode cX8_scrape 1 = .ok (.i2l, 1) := by decide +kernel
theorem dX8_scrape_2 : decode cX8_scrape 2 = .ok (.lconst 0, 1) := by decide +kernel
theorem dX8_scrape_3 : decode cX8_scrape 3 = .ok (.ldc2_w 321, 3) := by decide +kernel
theorem dX8_scrape_6 : decode cX8_scrape 6 = .ok (.invokestatic 109, 3) := by decide +kernel
theorem dX8_scrape_9 : decode cX8_scrape 9 = .ok (.ifCond .eq 15, 3) := by decide +kernel
theorem dX8_scrape_12 : decode cX8_scrape 12 = .ok (.iload_n 2, 1) := by decide +kernel
theorem dX8_scrape_13 : decode cX8_scrape 13 = .ok (.i2l, 1) := by decide +kernel
theorem dX8_scrape_14 : decode cX8_scrape 14 = .ok (.lconst 1, 1) := by decide +kernel
theorem dX8_scrape_15 : decode cX8_scrape 15 = .ok (.ldc2_w 326, 3) := by decide +kernel
theorem dX8_scrape_18 : decode cX8_scrape 18 = .ok (.invokestatic 109, 3) := by decide +kernel
theorem dX8_scrape_21 : decode cX8_scrape 21 = .ok (.ifCond .ne 6, 3) := by decide +kernel
theorem dX8_scrape_24 : decode cX8_scrape 24 = .ok (.ldc 121, 2) := by decide +kernel
theorem dX8_scrape_26 : decode cX8_scrape 26 = .ok (.ireturn, 1) := by decide +kernel
theorem dX8_scrape_27 : decode cX8_scrape 27 = .ok (.aload_n 0, 1) := by decide +kernel
theorem dX8_scrape_28 : decode cX8_scrape 28 = .ok (.getfield 328, 3) := by decide +kernel
theorem dX8_scrape_31 : decode cX8_scrape 31 = .ok (.ifCond .le 21, 3) := by decide +kernel
theorem dX8_scrape_34 : decode cX8_scrape 34 = .ok (.iload_n 1, 1) := by decide +kernel
theorem dX8_scrape_35 : decode cX8_scrape 35 = .ok (.aload_n 0, 1) := by decide +kernel
theorem dX8_scrape_36 : decode cX8_scrape 36 = .ok (.getfield 65, 3) := by decide +kernel
theorem dX8_scrape_39 : decode cX8_scrape 39 = .ok (.aload_n 0, 1) := by decide +kernel
theorem dX8_scrape_40 : decode cX8_scrape 40 = .ok (.getfield 328, 3) := by decide +kernel
theorem dX8_scrape_43 : decode cX8_scrape 43 = .ok (.iconst 1, 1) := by decide +kernel
theorem dX8_scrape_44 : decode cX8_scrape 44 = .ok (.isub, 1) := by decide +kernel
theorem dX8_scrape_45 : decode cX8_scrape 45 = .ok (.iaload, 1) := by decide +kernel
theorem dX8_scrape_46 : decode cX8_scrape 46 = .ok (.if_icmp .gt 6, 3) := by decide +kernel
theorem dX8_scrape_49 : decode cX8_scrape 49 = .ok (.ldc 227, 2) := by decide +kernel
theorem dX8_scrape_51 : decode cX8_scrape 51 = .ok (.ireturn, 1) := by decide +kernel
theorem dX8_scrape_52 : decode cX8_scrape 52 = .ok (.aload_n 0, 1) := by decide +kernel
theorem dX8_scrape_53 : decode cX8_scrape 53 = .ok (.getfield 328, 3) := by decide +kernel
theorem dX8_scrape_56 : decode cX8_scrape 56 = .ok (.bipush 24, 2) := by decide +kernel
theorem dX8_scrape_58 : decode cX8_scrape 58 = .ok (.if_icmp .ne 6, 3) := by decide +kernel
theorem dX8_scrape_61 : decode cX8_scrape 61 = .ok (.ldc 125, 2) := by decide +kernel
theorem dX8_scrape_63 : decode cX8_scrape 63 = .ok (.ireturn, 1) := by decide +kernel
theorem dX8_scrape_64 : decode cX8_scrape 64 = .ok (.aload_n 0, 1) := by decide +kernel
theorem dX8_scrape_65 : decode cX8_scrape 65 = .ok (.getfield 65, 3) := by decide +kernel
theorem dX8_scrape_68 : decode cX8_scrape 68 = .ok (.aload_n 0, 1) := by decide +kernel
theorem dX8_scrape_69 : decode cX8_scrape 69 = .ok (.getfield 328, 3) := by decide +kernel
theorem dX8_scrape_72 : decode cX8_scrape 72 = .ok (.iload_n 1, 1) := by decide +kernel
theorem dX8_scrape_73 : decode cX8_scrape 73 = .ok (.iastore, 1) := by decide +kernel
theorem dX8_scrape_74 : decode cX8_scrape 74 = .ok (.aload_n 0, 1) := by decide +kernel
theorem dX8_scrape_75 : decode cX8_scrape 75 = .ok (.getfield 68, 3) := by decide +kernel
theorem dX8_scrape_78 : decode cX8_scrape 78 = .ok (.aload_n 0, 1) := by decide +kernel
theorem dX8_scrape_79 : decode cX8_scrape 79 = .ok (.getfield 328, 3) := by decide +kernel
theorem dX8_scrape_82 : decode cX8_scrape 82 = .ok (.iload_n 2, 1) := by decide +kernel
theorem dX8_scrape_83 : decode cX8_scrape 83 = .ok (.iastore, 1) := by decide +kernel
theorem dX8_scrape_84 : decode cX8_scrape 84 = .ok (.aload_n 0, 1) := by decide +kernel
theorem dX8_scrape_85 : decode cX8_scrape 85 = .ok (.getfield 71, 3) := by decide +kernel
theorem dX8_scrape_88 : decode cX8_scrape 88 = .ok (.aload_n 0, 1) := by decide +kernel
theorem dX8_scrape_89 : decode cX8_scrape 89 = .ok (.getfield 328, 3) := by decide +kernel
theorem dX8_scrape_92 : decode cX8_scrape 92 = .ok (.iload_n 3, 1) := by decide +kernel
theorem dX8_scrape_93 : decode cX8_scrape 93 = .ok (.bastore, 1) := by decide +kernel
theorem dX8_scrape_94 : decode cX8_scrape 94 = .ok (.aload_n 0, 1) := by decide +kernel
theorem dX8_scrape_95 : decode cX8_scrape 95 = .ok (.dup, 1) := by decide +kernel
theorem dX8_scrape_96 : decode cX8_scrape 96 = .ok (.getfield 328, 3) := by decide +kernel
theorem dX8_scrape_99 : decode cX8_scrape 99 = .ok (.iconst 1, 1) := by decide +kernel
theorem dX8_scrape_100 : decode cX8_scrape 100 = .ok (.iadd, 1) := by decide +kernel
theorem dX8_scrape_101 : decode cX8_scrape 101 = .ok (.putfield 328, 3) := by decide +kernel
theorem dX8_scrape_104 : decode cX8_scrape 104 = .ok (.aload_n 0, 1) := by decide +kernel
theorem dX8_scrape_105 : decode cX8_scrape 105 = .ok (.getfield 328, 3) := by decide +kernel
theorem dX8_scrape_108 : decode cX8_scrape 108 = .ok (.ireturn, 1) := by decide +kernel
theorem dX8_judge_0 : decode cX8_judge 0 = .ok (.aload_n 0, 1) := by decide +kernel
theorem dX8_judge_1 : decode cX8_judge 1 = .ok (.iload_n 1, 1) := by decide +kernel
theorem dX8_judge_2 : decode cX8_judge 2 = .ok (.invokevirtual 235, 3) := by decide +kernel
theorem dX8_judge_5 : decode cX8_judge 5 = .ok (.ifCond .eq 13, 3) := by decide +kernel
theorem dX8_judge_8 : decode cX8_judge 8 = .ok (.aload_n 0, 1) := by decide +kernel
theorem dX8_judge_9 : decode cX8_judge 9 = .ok (.iload_n 2, 1) := by decide +kernel
theorem dX8_judge_10 : decode cX8_judge 10 = .ok (.iload 5, 2) := by decide +kernel
theorem dX8_judge_12 : decode cX8_judge 12 = .ok (.invokevirtual 209, 3) := by decide +kernel
theorem dX8_judge_15 : decode cX8_judge 15 = .ok (.ifCond .ne 6, 3) := by decide +kernel
theorem dX8_judge_18 : decode cX8_judge 18 = .ok (.ldc 197, 2) := by decide +kernel
theorem dX8_judge_20 : decode cX8_judge 20 = .ok (.ireturn, 1) := by decide +kernel
theorem dX8_judge_21 : decode cX8_judge 21 = .ok (.aload_n 0, 1) := by decide +kernel
theorem dX8_judge_22 : decode cX8_judge 22 = .ok (.iload_n 3, 1) := by decide +kernel
theorem dX8_judge_23 : decode cX8_judge 23 = .ok (.iload 4, 2) := by decide +kernel
theorem dX8_judge_25 : decode cX8_judge 25 = .ok (.invokevirtual 312, 3) := by decide +kernel
theorem dX8_judge_28 : decode cX8_judge 28 = .ok (.ifCond .ne 6, 3) := by decide +kernel
theorem dX8_judge_31 : decode cX8_judge 31 = .ok (.ldc 121, 2) := by decide +kernel
theorem dX8_judge_33 : decode cX8_judge 33 = .ok (.ireturn, 1) := by decide +kernel
theorem dX8_judge_34 : decode cX8_judge 34 = .ok (.aload_n 0, 1) := by decide +kernel
theorem dX8_judge_35 : decode cX8_judge 35 = .ok (.iload_n 1, 1) := by decide +kernel
theorem dX8_judge_36 : decode cX8_judge 36 = .ok (.iload_n 2, 1) := by decide +kernel
theorem dX8_judge_37 : decode cX8_judge 37 = .ok (.iconst (-1), 1) := by decide +kernel
theorem dX8_judge_38 : decode cX8_judge 38 = .ok (.iload_n 3, 1) := by decide +kernel
theorem dX8_judge_39 : decode cX8_judge 39 = .ok (.invokevirtual 308, 3) := by decide +kernel
theorem dX8_judge_42 : decode cX8_judge 42 = .ok (.iconst 0, 1) := by decide +kernel
theorem dX8_judge_43 : decode cX8_judge 43 = .ok (.istore 6, 2) := by decide +kernel
theorem dX8_judge_45 : decode cX8_judge 45 = .ok (.iconst 0, 1) := by decide +kernel
theorem dX8_judge_46 : decode cX8_judge 46 = .ok (.istore 7, 2) := by decide +kernel
theorem dX8_judge_48 : decode cX8_judge 48 = .ok (.iload 7, 2) := by decide +kernel
theorem dX8_judge_50 : decode cX8_judge 50 = .ok (.aload_n 0, 1) := by decide +kernel
theorem dX8_judge_51 : decode cX8_judge 51 = .ok (.getfield 328, 3) := by decide +kernel
theorem dX8_judge_54 : decode cX8_judge 54 = .ok (.if_icmp .ge 70, 3) := by decide +kernel
theorem dX8_judge_57 : decode cX8_judge 57 = .ok (.aload_n 0, 1) := by decide +kernel
theorem dX8_judge_58 : decode cX8_judge 58 = .ok (.iconst 0, 1) := by decide +kernel
theorem dX8_judge_59 : decode cX8_judge 59 = .ok (.iload 4, 2) := by decide +kernel
theorem dX8_judge_61 : decode cX8_judge 61 = .ok (.iload 5, 2) := by decide +kernel
theorem dX8_judge_63 : decode cX8_judge 63 = .ok (.aload_n 0, 1) := by decide +kernel
theorem dX8_judge_64 : decode cX8_judge 64 = .ok (.getfield 65, 3) := by decide +kernel
theorem dX8_judge_67 : decode cX8_judge 67 = .ok (.iload 7, 2) := by decide +kernel
theorem dX8_judge_69 : decode cX8_judge 69 = .ok (.iaload, 1) := by decide +kernel
theorem dX8_judge_70 : decode cX8_judge 70 = .ok (.iload 6, 2) := by decide +kernel
theorem dX8_judge_72 : decode cX8_judge 72 = .ok (.aload_n 0, 1) := by decide +kernel
theorem dX8_judge_73 : decode cX8_judge 73 = .ok (.getfield 68, 3) := by decide +kernel
theorem dX8_judge_76 : decode cX8_judge 76 = .ok (.iload 7, 2) := by decide +kernel
theorem dX8_judge_78 : decode cX8_judge 78 = .ok (.iaload, 1) := by decide +kernel
theorem dX8_judge_79 : decode cX8_judge 79 = .ok (.invokevirtual 281, 3) := by decide +kernel
theorem dX8_judge_82 : decode cX8_judge 82 = .ok (.aload_n 0, 1) := by decide +kernel
theorem dX8_judge_83 : decode cX8_judge 83 = .ok (.getfield 71, 3) := by decide +kernel
theorem dX8_judge_86 : decode cX8_judge 86 = .ok (.iload 7, 2) := by decide +kernel
theorem dX8_judge_88 : decode cX8_judge 88 = .ok (.baload, 1) := by decide +kernel
theorem dX8_judge_89 : decode cX8_judge 89 = .ok (.if_icmp .eq 6, 3) := by decide +kernel
theorem dX8_judge_92 : decode cX8_judge 92 = .ok (.iload 7, 2) := by decide +kernel
theorem dX8_judge_94 : decode cX8_judge 94 = .ok (.ireturn, 1) := by decide +kernel
theorem dX8_judge_95 : decode cX8_judge 95 = .ok (.aload_n 0, 1) := by decide +kernel
theorem dX8_judge_96 : decode cX8_judge 96 = .ok (.getfield 71, 3) := by decide +kernel
theorem dX8_judge_99 : decode cX8_judge 99 = .ok (.iload 7, 2) := by decide +kernel
theorem dX8_judge_101 : decode cX8_judge 101 = .ok (.baload, 1) := by decide +kernel
theorem dX8_judge_102 : decode cX8_judge 102 = .ok (.ifCond .eq 12, 3) := by decide +kernel
theorem dX8_judge_105 : decode cX8_judge 105 = .ok (.aload_n 0, 1) := by decide +kernel
theorem dX8_judge_106 : decode cX8_judge 106 = .ok (.iload 6, 2) := by decide +kernel
theorem dX8_judge_108 : decode cX8_judge 108 = .ok (.invokevirtual 269, 3) := by decide +kernel
theorem dX8_judge_111 : decode cX8_judge 111 = .ok (.goto 5, 3) := by decide +kernel
theorem dX8_judge_114 : decode cX8_judge 114 = .ok (.iload 6, 2) := by decide +kernel
theorem dX8_judge_116 : decode cX8_judge 116 = .ok (.istore 6, 2) := by decide +kernel
theorem dX8_judge_118 : decode cX8_judge 118 = .ok (.iinc 7 1, 3) := by decide +kernel
theorem dX8_judge_121 : decode cX8_judge 121 = .ok (.goto (-73), 3) := by decide +kernel
theorem dX8_judge_124 : decode cX8_judge 124 = .ok (.iconst (-1), 1) := by decide +kernel
theorem dX8_judge_125 : decode cX8_judge 125 = .ok (.ireturn, 1) := by decide +kernel
theorem dX8_liveYear_0 : decode cX8_liveYear 0 = .ok (.aload_n 0, 1) := by decide +kernel
theorem dX8_liveYear_1 : decode cX8_liveYear 1 = .ok (.iconst 0, 1) := by decide +kernel
theorem dX8_liveYear_2 : decode cX8_liveYear 2 = .ok (.iload_n 1, 1) := by decide +kernel
theorem dX8_liveYear_3 : decode cX8_liveYear 3 = .ok (.invokevirtual 302, 3) := by decide +kernel
theorem dX8_liveYear_6 : decode cX8_liveYear 6 = .ok (.ifCond .eq 7, 3) := by decide +kernel
theorem dX8_liveYear_9 : decode cX8_liveYear 9 = .ok (.iconst 1, 1) := by decide +kernel
theorem dX8_liveYear_10 : decode cX8_liveYear 10 = .ok (.goto 4, 3) := by decide +kernel
theorem dX8_liveYear_13 : decode cX8_liveYear 13 = .ok (.iconst 0, 1) := by decide +kernel
theorem dX8_liveYear_14 : decode cX8_liveYear 14 = .ok (.istore_n 2, 1) := by decide +kernel
theorem dX8_liveYear_15 : decode cX8_liveYear 15 = .ok (.aload_n 0, 1) := by decide +kernel
theorem dX8_liveYear_16 : decode cX8_liveYear 16 = .ok (.lconst 0, 1) := by decide +kernel
theorem dX8_liveYear_17 : decode cX8_liveYear 17 = .ok (.putfield 331, 3) := by decide +kernel
theorem dX8_liveYear_20 : decode cX8_liveYear 20 = .ok (.iconst 0, 1) := by decide +kernel
theorem dX8_liveYear_21 : decode cX8_liveYear 21 = .ok (.istore_n 3, 1) := by decide +kernel
theorem dX8_liveYear_22 : decode cX8_liveYear 22 = .ok (.iload_n 3, 1) := by decide +kernel
theorem dX8_liveYear_23 : decode cX8_liveYear 23 = .ok (.iconst 4, 1) := by decide +kernel
theorem dX8_liveYear_24 : decode cX8_liveYear 24 = .ok (.if_icmp .ge 26, 3) := by decide +kernel
theorem dX8_liveYear_27 : decode cX8_liveYear 27 = .ok (.aload_n 0, 1) := by decide +kernel
theorem dX8_liveYear_28 : decode cX8_liveYear 28 = .ok (.getfield 75, 3) := by decide +kernel
theorem dX8_liveYear_31 : decode cX8_liveYear 31 = .ok (.iload_n 3, 1) := by decide +kernel
theorem dX8_liveYear_32 : decode cX8_liveYear 32 = .ok (.iload_n 3, 1) := by decide +kernel
theorem dX8_liveYear_33 : decode cX8_liveYear 33 = .ok (.ifCond .ne 9, 3) := by decide +kernel
theorem dX8_liveYear_36 : decode cX8_liveYear 36 = .ok (.ldc_w 334, 3) := by decide +kernel
theorem dX8_liveYear_39 : decode cX8_liveYear 39 = .ok (.goto 4, 3) := by decide +kernel
theorem dX8_liveYear_42 : decode cX8_liveYear 42 = .ok (.iconst 0, 1) := by decide +kernel
theorem dX8_liveYear_43 : decode cX8_liveYear 43 = .ok (.iastore, 1) := by decide +kernel
theorem dX8_liveYear_44 : decode cX8_liveYear 44 = .ok (.iinc 3 1, 3) := by decide +kernel
theorem dX8_liveYear_47 : decode cX8_liveYear 47 = .ok (.goto (-25), 3) := by decide +kernel
theorem dX8_liveYear_50 : decode cX8_liveYear 50 = .ok (.iconst 0, 1) := by decide +kernel
theorem dX8_liveYear_51 : decode cX8_liveYear 51 = .ok (.istore_n 3, 1) := by decide +kernel
theorem dX8_liveYear_52 : decode cX8_liveYear 52 = .ok (.iload_n 3, 1) := by decide +kernel
theorem dX8_liveYear_53 : decode cX8_liveYear 53 = .ok (.bipush 12, 2) := by decide +kernel
theorem dX8_liveYear_55 : decode cX8_liveYear 55 = .ok (.if_icmp .ge 252, 3) := by decide +kernel
theorem dX8_liveYear_58 : decode cX8_liveYear 58 = .ok (.iconst 0, 1) := by decide +kernel
theorem dX8_liveYear_59 : decode cX8_liveYear 59 = .ok (.istore 4, 2) := by decide +kernel
theorem dX8_liveYear_61 : decode cX8_liveYear 61 = .ok (.iload 4, 2) := by decide +kernel
theorem dX8_liveYear_63 : decode cX8_liveYear 63 = .ok (.iconst 4, 1) := by decide +kernel
theorem dX8_liveYear_64 : decode cX8_liveYear 64 = .ok (.if_icmp .ge 187, 3) := by decide +kernel
theorem dX8_liveYear_67 : decode cX8_liveYear 67 = .ok (.lconst 0, 1) := by decide +kernel
theorem dX8_liveYear_68 : decode cX8_liveYear 68 = .ok (.lstore 5, 2) := by decide +kernel
theorem dX8_liveYear_70 : decode cX8_liveYear 70 = .ok (.lconst 0, 1) := by decide +kernel
theorem dX8_liveYear_71 : decode cX8_liveYear 71 = .ok (.lstore 7, 2) := by decide +kernel
theorem dX8_liveYear_73 : decode cX8_liveYear 73 = .ok (.iconst 0, 1) := by decide +kernel
theorem dX8_liveYear_74 : decode cX8_liveYear 74 = .ok (.istore 9, 2) := by decide +kernel
theorem dX8_liveYear_76 : decode cX8_liveYear 76 = .ok (.iload 9, 2) := by decide +kernel
theorem dX8_liveYear_78 : decode cX8_liveYear 78 = .ok (.aload_n 0, 1) := by decide +kernel
theorem dX8_liveYear_79 : decode cX8_liveYear 79 = .ok (.getfield 31, 3) := by decide +kernel
theorem dX8_liveYear_82 : decode cX8_liveYear 82 = .ok (.aload_n 0, 1) := by decide +kernel
theorem dX8_liveYear_83 : decode cX8_liveYear 83 = .ok (.getfield 278, 3) := by decide +kernel
theorem dX8_liveYear_86 : decode cX8_liveYear 86 = .ok (.iaload, 1) := by decide +kernel
theorem dX8_liveYear_87 : decode cX8_liveYear 87 = .ok (.if_icmp .ge 111, 3) := by decide +kernel
theorem dX8_liveYear_90 : decode cX8_liveYear 90 = .ok (.aload_n 0, 1) := by decide +kernel
theorem dX8_liveYear_91 : decode cX8_liveYear 91 = .ok (.getfield 34, 3) := by decide +kernel
theorem dX8_liveYear_94 : decode cX8_liveYear 94 = .ok (.bipush 8, 2) := by decide +kernel
theorem dX8_liveYear_96 : decode cX8_liveYear 96 = .ok (.aload_n 0, 1) := by decide +kernel
theorem dX8_liveYear_97 : decode cX8_liveYear 97 = .ok (.getfield 278, 3) := by decide +kernel
theorem dX8_liveYear_100 : decode cX8_liveYear 100 = .ok (.imul, 1) := by decide +kernel
theorem dX8_liveYear_101 : decode cX8_liveYear 101 = .ok (.iload 9, 2) := by decide +kernel
theorem dX8_liveYear_103 : decode cX8_liveYear 103 = .ok (.iadd, 1) := by decide +kernel
theorem dX8_liveYear_104 : decode cX8_liveYear 104 = .ok (.iaload, 1) := by decide +kernel
theorem dX8_liveYear_105 : decode cX8_liveYear 105 = .ok (.istore 10, 2) := by decide +kernel
theorem dX8_liveYear_107 : decode cX8_liveYear 107 = .ok (.aload_n 0, 1) := by decide +kernel
theorem dX8_liveYear_108 : decode cX8_liveYear 108 = .ok (.iload_n 2, 1) := by decide +kernel
theorem dX8_liveYear_109 : decode cX8_liveYear 109 = .ok (.iconst 0, 1) := by decide +kernel
theorem dX8_liveYear_110 : decode cX8_liveYear 110 = .ok (.iload_n 1, 1) := by decide +kernel
theorem dX8_liveYear_111 : decode cX8_liveYear 111 = .ok (.iload_n 3, 1) := by decide +kernel
theorem dX8_liveYear_112 : decode cX8_liveYear 112 = .ok (.iload 4, 2) := by decide +kernel
theorem dX8_liveYear_114 : decode cX8_liveYear 114 = .ok (.iload 10, 2) := by decide +kernel
theorem dX8_liveYear_116 : decode cX8_liveYear 116 = .ok (.invokevirtual 281, 3) := by decide +kernel
theorem dX8_liveYear_119 : decode cX8_liveYear 119 = .ok (.ifCond .eq 73, 3) := by decide +kernel
theorem dX8_liveYear_122 : decode cX8_liveYear 122 = .ok (.aload_n 0, 1) := by decide +kernel
theorem dX8_liveYear_123 : decode cX8_liveYear 123 = .ok (.aload_n 0, 1) := by decide +kernel
theorem dX8_liveYear_124 : decode cX8_liveYear 124 = .ok (.getfield 278, 3) := by decide +kernel
theorem dX8_liveYear_127 : decode cX8_liveYear 127 = .ok (.iload 9, 2) := by decide +kernel
theorem dX8_liveYear_129 : decode cX8_liveYear 129 = .ok (.iload_n 2, 1) := by decide +kernel
theorem dX8_liveYear_130 : decode cX8_liveYear 130 = .ok (.iconst 1, 1) := by decide +kernel
theorem dX8_liveYear_131 : decode cX8_liveYear 131 = .ok (.if_icmp .ne 7, 3) := by decide +kernel
theorem dX8_liveYear_134 : decode cX8_liveYear 134 = .ok (.iconst 1, 1) := by decide +kernel
theorem dX8_liveYear_135 : decode cX8_liveYear 135 = .ok (.goto 4, 3) := by decide +kernel
theorem dX8_liveYear_138 : decode cX8_liveYear 138 = .ok (.iconst 0, 1) := by decide +kernel
theorem dX8_liveYear_139 : decode cX8_liveYear 139 = .ok (.invokevirtual 231, 3) := by decide +kernel
theorem dX8_liveYear_142 : decode cX8_liveYear 142 = .ok (.istore 11, 2) := by decide +kernel
theorem dX8_liveYear_144 : decode cX8_liveYear 144 = .ok (.lload 5, 2) := by decide +kernel
theorem dX8_liveYear_146 : decode cX8_liveYear 146 = .ok (.iload 11, 2) := by decide +kernel
theorem dX8_liveYear_148 : decode cX8_liveYear 148 = .ok (.i2l, 1) := by decide +kernel
theorem dX8_liveYear_149 : decode cX8_liveYear 149 = .ok (.ladd, 1) := by decide +kernel
theorem dX8_liveYear_150 : decode cX8_liveYear 150 = .ok (.lstore 5, 2) := by decide +kernel
theorem dX8_liveYear_152 : decode cX8_liveYear 152 = .ok (.lload 7, 2) := by decide +kernel
theorem dX8_liveYear_154 : decode cX8_liveYear 154 = .ok (.iload 11, 2) := by decide +kernel
theorem dX8_liveYear_156 : decode cX8_liveYear 156 = .ok (.i2l, 1) := by decide +kernel
theorem dX8_liveYear_157 : decode cX8_liveYear 157 = .ok (.iload 10, 2) := by decide +kernel
theorem dX8_liveYear_159 : decode cX8_liveYear 159 = .ok (.aload_n 0, 1) := by decide +kernel
theorem dX8_liveYear_160 : decode cX8_liveYear 160 = .ok (.getfield 25, 3) := by decide +kernel
theorem dX8_liveYear_163 : decode cX8_liveYear 163 = .ok (.aload_n 0, 1) := by decide +kernel
theorem dX8_liveYear_164 : decode cX8_liveYear 164 = .ok (.getfield 255, 3) := by decide +kernel
theorem dX8_liveYear_167 : decode cX8_liveYear 167 = .ok (.iaload, 1) := by decide +kernel
theorem dX8_liveYear_168 : decode cX8_liveYear 168 = .ok (.if_icmp .le 18, 3) := by decide +kernel
theorem dX8_liveYear_171 : decode cX8_liveYear 171 = .ok (.iload 10, 2) := by decide +kernel
theorem dX8_liveYear_173 : decode cX8_liveYear 173 = .ok (.aload_n 0, 1) := by decide +kernel
theorem dX8_liveYear_174 : decode cX8_liveYear 174 = .ok (.getfield 25, 3) := by decide +kernel
theorem dX8_liveYear_177 : decode cX8_liveYear 177 = .ok (.aload_n 0, 1) := by decide +kernel
theorem dX8_liveYear_178 : decode cX8_liveYear 178 = .ok (.getfield 255, 3) := by decide +kernel
theorem dX8_liveYear_181 : decode cX8_liveYear 181 = .ok (.iaload, 1) := by decide +kernel
theorem dX8_liveYear_182 : decode cX8_liveYear 182 = .ok (.isub, 1) := by decide +kernel
theorem dX8_liveYear_183 : decode cX8_liveYear 183 = .ok (.goto 4, 3) := by decide +kernel
theorem dX8_liveYear_186 : decode cX8_liveYear 186 = .ok (.iconst 0, 1) := by decide +kernel
theorem dX8_liveYear_187 : decode cX8_liveYear 187 = .ok (.i2l, 1) := by decide +kernel
theorem dX8_liveYear_188 : decode cX8_liveYear 188 = .ok (.lmul, 1) := by decide +kernel
theorem dX8_liveYear_189 : decode cX8_liveYear 189 = .ok (.ladd, 1) := by decide +kernel
theorem dX8_liveYear_190 : decode cX8_liveYear 190 = .ok (.lstore 7, 2) := by decide +kernel
theorem dX8_liveYear_192 : decode cX8_liveYear 192 = .ok (.iinc 9 1, 3) := by decide +kernel
theorem dX8_liveYear_195 : decode cX8_liveYear 195 = .ok (.goto (-119), 3) := by decide +kernel
theorem dX8_liveYear_198 : decode cX8_liveYear 198 = .ok (.aload_n 0, 1) := by decide +kernel
theorem dX8_liveYear_199 : decode cX8_liveYear 199 = .ok (.dup, 1) := by decide +kernel
theorem dX8_liveYear_200 : decode cX8_liveYear 200 = .ok (.getfield 331, 3) := by decide +kernel
theorem dX8_liveYear_203 : decode cX8_liveYear 203 = .ok (.aload_n 0, 1) := by decide +kernel
theorem dX8_liveYear_204 : decode cX8_liveYear 204 = .ok (.getfield 75, 3) := by decide +kernel
theorem dX8_liveYear_207 : decode cX8_liveYear 207 = .ok (.iload 4, 2) := by decide +kernel
theorem dX8_liveYear_209 : decode cX8_liveYear 209 = .ok (.iaload, 1) := by decide +kernel
theorem dX8_liveYear_210 : decode cX8_liveYear 210 = .ok (.i2l, 1) := by decide +kernel
theorem dX8_liveYear_211 : decode cX8_liveYear 211 = .ok (.lload 7, 2) := by decide +kernel
theorem dX8_liveYear_213 : decode cX8_liveYear 213 = .ok (.lmul, 1) := by decide +kernel
theorem dX8_liveYear_214 : decode cX8_liveYear 214 = .ok (.ldc2_w 335, 3) := by decide +kernel
theorem dX8_liveYear_217 : decode cX8_liveYear 217 = .ok (.ldiv, 1) := by decide +kernel
theorem dX8_liveYear_218 : decode cX8_liveYear 218 = .ok (.ladd, 1) := by decide +kernel
theorem dX8_liveYear_219 : decode cX8_liveYear 219 = .ok (.putfield 331, 3) := by decide +kernel
theorem dX8_liveYear_222 : decode cX8_liveYear 222 = .ok (.aload_n 0, 1) := by decide +kernel
theorem dX8_liveYear_223 : decode cX8_liveYear 223 = .ok (.getfield 78, 3) := by decide +kernel
theorem dX8_liveYear_226 : decode cX8_liveYear 226 = .ok (.iload 4, 2) := by decide +kernel
theorem dX8_liveYear_228 : decode cX8_liveYear 228 = .ok (.aload_n 0, 1) := by decide +kernel
theorem dX8_liveYear_229 : decode cX8_liveYear 229 = .ok (.getfield 75, 3) := by decide +kernel
theorem dX8_liveYear_232 : decode cX8_liveYear 232 = .ok (.iload 4, 2) := by decide +kernel
theorem dX8_liveYear_234 : decode cX8_liveYear 234 = .ok (.iaload, 1) := by decide +kernel
theorem dX8_liveYear_235 : decode cX8_liveYear 235 = .ok (.i2l, 1) := by decide +kernel
theorem dX8_liveYear_236 : decode cX8_liveYear 236 = .ok (.lload 5, 2) := by decide +kernel
theorem dX8_liveYear_238 : decode cX8_liveYear 238 = .ok (.lmul, 1) := by decide +kernel
theorem dX8_liveYear_239 : decode cX8_liveYear 239 = .ok (.ldc2_w 276, 3) := by decide +kernel
theorem dX8_liveYear_242 : decode cX8_liveYear 242 = .ok (.ldiv, 1) := by decide +kernel
theorem dX8_liveYear_243 : decode cX8_liveYear 243 = .ok (.l2i, 1) := by decide +kernel
theorem dX8_liveYear_244 : decode cX8_liveYear 244 = .ok (.iastore, 1) := by decide +kernel
theorem dX8_liveYear_245 : decode cX8_liveYear 245 = .ok (.iinc 4 1, 3) := by decide +kernel
theorem dX8_liveYear_248 : decode cX8_liveYear 248 = .ok (.goto (-187), 3) := by decide +kernel
theorem dX8_liveYear_251 : decode cX8_liveYear 251 = .ok (.iconst 2, 1) := by decide +kernel
theorem dX8_liveYear_252 : decode cX8_liveYear 252 = .ok (.istore 4, 2) := by decide +kernel
theorem dX8_liveYear_254 : decode cX8_liveYear 254 = .ok (.iload 4, 2) := by decide +kernel
theorem dX8_liveYear_256 : decode cX8_liveYear 256 = .ok (.ifCond .lt 45, 3) := by decide +kernel
theorem dX8_liveYear_259 : decode cX8_liveYear 259 = .ok (.aload_n 0, 1) := by decide +kernel
theorem dX8_liveYear_260 : decode cX8_liveYear 260 = .ok (.getfield 75, 3) := by decide +kernel
theorem dX8_liveYear_263 : decode cX8_liveYear 263 = .ok (.iload 4, 2) := by decide +kernel
theorem dX8_liveYear_265 : decode cX8_liveYear 265 = .ok (.dup2, 1) := by decide +kernel
theorem dX8_liveYear_266 : decode cX8_liveYear 266 = .ok (.iaload, 1) := by decide +kernel
theorem dX8_liveYear_267 : decode cX8_liveYear 267 = .ok (.aload_n 0, 1) := by decide +kernel
theorem dX8_liveYear_268 : decode cX8_liveYear 268 = .ok (.getfield 78, 3) := by decide +kernel
theorem dX8_liveYear_271 : decode cX8_liveYear 271 = .ok (.iload 4, 2) := by decide +kernel
theorem dX8_liveYear_273 : decode cX8_liveYear 273 = .ok (.iaload, 1) := by decide +kernel
theorem dX8_liveYear_274 : decode cX8_liveYear 274 = .ok (.isub, 1) := by decide +kernel
theorem dX8_liveYear_275 : decode cX8_liveYear 275 = .ok (.iastore, 1) := by decide +kernel
theorem dX8_liveYear_276 : decode cX8_liveYear 276 = .ok (.aload_n 0, 1) := by decide +kernel
theorem dX8_liveYear_277 : decode cX8_liveYear 277 = .ok (.getfield 75, 3) := by decide +kernel
theorem dX8_liveYear_280 : decode cX8_liveYear 280 = .ok (.iload 4, 2) := by decide +kernel
theorem dX8_liveYear_282 : decode cX8_liveYear 282 = .ok (.iconst 1, 1) := by decide +kernel
theorem dX8_liveYear_283 : decode cX8_liveYear 283 = .ok (.iadd, 1) := by decide +kernel
theorem dX8_liveYear_284 : decode cX8_liveYear 284 = .ok (.dup2, 1) := by decide +kernel
theorem dX8_liveYear_285 : decode cX8_liveYear 285 = .ok (.iaload, 1) := by decide +kernel
theorem dX8_liveYear_286 : decode cX8_liveYear 286 = .ok (.aload_n 0, 1) := by decide +kernel
theorem dX8_liveYear_287 : decode cX8_liveYear 287 = .ok (.getfield 78, 3) := by decide +kernel
theorem dX8_liveYear_290 : decode cX8_liveYear 290 = .ok (.iload 4, 2) := by decide +kernel
theorem dX8_liveYear_292 : decode cX8_liveYear 292 = .ok (.iaload, 1) := by decide +kernel
theorem dX8_liveYear_293 : decode cX8_liveYear 293 = .ok (.iadd, 1) := by decide +kernel
theorem dX8_liveYear_294 : decode cX8_liveYear 294 = .ok (.iastore, 1) := by decide +kernel
theorem dX8_liveYear_295 : decode cX8_liveYear 295 = .ok (.iinc 4 (-1), 3) := by decide +kernel
theorem dX8_liveYear_298 : decode cX8_liveYear 298 = .ok (.goto (-44), 3) := by decide +kernel
theorem dX8_liveYear_301 : decode cX8_liveYear 301 = .ok (.iinc 3 1, 3) := by decide +kernel
theorem dX8_liveYear_304 : decode cX8_liveYear 304 = .ok (.goto (-252), 3) := by decide +kernel
theorem dX8_liveYear_307 : decode cX8_liveYear 307 = .ok (.return_, 1) := by decide +kernel
theorem dX8_stand_0 : decode cX8_stand 0 = .ok (.aload_n 0, 1) := by decide +kernel
theorem dX8_stand_1 : decode cX8_stand 1 = .ok (.getfield 7, 3) := by decide +kernel
theorem dX8_stand_4 : decode cX8_stand 4 = .ok (.aload_n 0, 1) := by decide +kernel
theorem dX8_stand_5 : decode cX8_stand 5 = .ok (.getfield 255, 3) := by decide +kernel
theorem dX8_stand_8 : decode cX8_stand 8 = .ok (.iaload, 1) := by decide +kernel
theorem dX8_stand_9 : decode cX8_stand 9 = .ok (.istore_n 2, 1) := by decide +kernel
theorem dX8_stand_10 : decode cX8_stand 10 = .ok (.iconst 0, 1) := by decide +kernel
theorem dX8_stand_11 : decode cX8_stand 11 = .ok (.istore_n 3, 1) := by decide +kernel
theorem dX8_stand_12 : decode cX8_stand 12 = .ok (.iload_n 3, 1) := by decide +kernel
theorem dX8_stand_13 : decode cX8_stand 13 = .ok (.iload_n 2, 1) := by decide +kernel
theorem dX8_stand_14 : decode cX8_stand 14 = .ok (.if_icmp .ge 35, 3) := by decide +kernel
theorem dX8_stand_17 : decode cX8_stand 17 = .ok (.aload_n 0, 1) := by decide +kernel
theorem dX8_stand_18 : decode cX8_stand 18 = .ok (.getfield 81, 3) := by decide +kernel
theorem dX8_stand_21 : decode cX8_stand 21 = .ok (.iload_n 3, 1) := by decide +kernel
theorem dX8_stand_22 : decode cX8_stand 22 = .ok (.iload_n 3, 1) := by decide +kernel
theorem dX8_stand_23 : decode cX8_stand 23 = .ok (.aload_n 0, 1) := by decide +kernel
theorem dX8_stand_24 : decode cX8_stand 24 = .ok (.getfield 28, 3) := by decide +kernel
theorem dX8_stand_27 : decode cX8_stand 27 = .ok (.aload_n 0, 1) := by decide +kernel
theorem dX8_stand_28 : decode cX8_stand 28 = .ok (.getfield 255, 3) := by decide +kernel
theorem dX8_stand_31 : decode cX8_stand 31 = .ok (.iaload, 1) := by decide +kernel
theorem dX8_stand_32 : decode cX8_stand 32 = .ok (.if_icmp .ne 9, 3) := by decide +kernel
theorem dX8_stand_35 : decode cX8_stand 35 = .ok (.ldc_w 334, 3) := by decide +kernel
theorem dX8_stand_38 : decode cX8_stand 38 = .ok (.goto 4, 3) := by decide +kernel
theorem dX8_stand_41 : decode cX8_stand 41 = .ok (.iconst 0, 1) := by decide +kernel
theorem dX8_stand_42 : decode cX8_stand 42 = .ok (.iastore, 1) := by decide +kernel
theorem dX8_stand_43 : decode cX8_stand 43 = .ok (.iinc 3 1, 3) := by decide +kernel
theorem dX8_stand_46 : decode cX8_stand 46 = .ok (.goto (-34), 3) := by decide +kernel
theorem dX8_stand_49 : decode cX8_stand 49 = .ok (.iconst 0, 1) := by decide +kernel
theorem dX8_stand_50 : decode cX8_stand 50 = .ok (.istore_n 3, 1) := by decide +kernel
theorem dX8_stand_51 : decode cX8_stand 51 = .ok (.iload_n 3, 1) := by decide +kernel
theorem dX8_stand_52 : decode cX8_stand 52 = .ok (.iload_n 1, 1) := by decide +kernel
theorem dX8_stand_53 : decode cX8_stand 53 = .ok (.if_icmp .ge 167, 3) := by decide +kernel
theorem dX8_stand_56 : decode cX8_stand 56 = .ok (.ldc_w 334, 3) := by decide +kernel
theorem dX8_stand_59 : decode cX8_stand 59 = .ok (.istore 4, 2) := by decide +kernel
theorem dX8_stand_61 : decode cX8_stand 61 = .ok (.iconst 0, 1) := by decide +kernel
theorem dX8_stand_62 : decode cX8_stand 62 = .ok (.istore 5, 2) := by decide +kernel
theorem dX8_stand_64 : decode cX8_stand 64 = .ok (.iload 5, 2) := by decide +kernel
theorem dX8_stand_66 : decode cX8_stand 66 = .ok (.iload_n 2, 1) := by decide +kernel
theorem dX8_stand_67 : decode cX8_stand 67 = .ok (.if_icmp .ge 17, 3) := by decide +kernel
theorem dX8_stand_70 : decode cX8_stand 70 = .ok (.aload_n 0, 1) := by decide +kernel
theorem dX8_stand_71 : decode cX8_stand 71 = .ok (.getfield 84, 3) := by decide +kernel
theorem dX8_stand_74 : decode cX8_stand 74 = .ok (.iload 5, 2) := by decide +kernel
theorem dX8_stand_76 : decode cX8_stand 76 = .ok (.iconst 0, 1) := by decide +kernel
theorem dX8_stand_77 : decode cX8_stand 77 = .ok (.iastore, 1) := by decide +kernel
theorem dX8_stand_78 : decode cX8_stand 78 = .ok (.iinc 5 1, 3) := by decide +kernel
theorem dX8_stand_81 : decode cX8_stand 81 = .ok (.goto (-17), 3) := by decide +kernel
theorem dX8_stand_84 : decode cX8_stand 84 = .ok (.iconst 0, 1) := by decide +kernel
theorem dX8_stand_85 : decode cX8_stand 85 = .ok (.istore 5, 2) := by decide +kernel
theorem dX8_stand_87 : decode cX8_stand 87 = .ok (.iload 5, 2) := by decide +kernel
theorem dX8_stand_89 : decode cX8_stand 89 = .ok (.iload_n 2, 1) := by decide +kernel
theorem dX8_stand_90 : decode cX8_stand 90 = .ok (.if_icmp .ge 83, 3) := by decide +kernel
theorem dX8_stand_93 : decode cX8_stand 93 = .ok (.aload_n 0, 1) := by decide +kernel
theorem dX8_stand_94 : decode cX8_stand 94 = .ok (.iload 5, 2) := by decide +kernel
theorem dX8_stand_96 : decode cX8_stand 96 = .ok (.invokevirtual 337, 3) := by decide +kernel
theorem dX8_stand_99 : decode cX8_stand 99 = .ok (.iconst 0, 1) := by decide +kernel
theorem dX8_stand_100 : decode cX8_stand 100 = .ok (.istore 6, 2) := by decide +kernel
theorem dX8_stand_102 : decode cX8_stand 102 = .ok (.iload 6, 2) := by decide +kernel
theorem dX8_stand_104 : decode cX8_stand 104 = .ok (.iconst 4, 1) := by decide +kernel
theorem dX8_stand_105 : decode cX8_stand 105 = .ok (.if_icmp .ge 62, 3) := by decide +kernel
theorem dX8_stand_108 : decode cX8_stand 108 = .ok (.aload_n 0, 1) := by decide +kernel
theorem dX8_stand_109 : decode cX8_stand 109 = .ok (.getfield 81, 3) := by decide +kernel
theorem dX8_stand_112 : decode cX8_stand 112 = .ok (.iload 5, 2) := by decide +kernel
theorem dX8_stand_114 : decode cX8_stand 114 = .ok (.iaload, 1) := by decide +kernel
theorem dX8_stand_115 : decode cX8_stand 115 = .ok (.i2l, 1) := by decide +kernel
theorem dX8_stand_116 : decode cX8_stand 116 = .ok (.aload_n 0, 1) := by decide +kernel
theorem dX8_stand_117 : decode cX8_stand 117 = .ok (.getfield 75, 3) := by decide +kernel
theorem dX8_stand_120 : decode cX8_stand 120 = .ok (.iload 6, 2) := by decide +kernel
theorem dX8_stand_122 : decode cX8_stand 122 = .ok (.iaload, 1) := by decide +kernel
theorem dX8_stand_123 : decode cX8_stand 123 = .ok (.i2l, 1) := by decide +kernel
theorem dX8_stand_124 : decode cX8_stand 124 = .ok (.lmul, 1) := by decide +kernel
theorem dX8_stand_125 : decode cX8_stand 125 = .ok (.ldc2_w 335, 3) := by decide +kernel
theorem dX8_stand_128 : decode cX8_stand 128 = .ok (.ldiv, 1) := by decide +kernel
theorem dX8_stand_129 : decode cX8_stand 129 = .ok (.l2i, 1) := by decide +kernel
theorem dX8_stand_130 : decode cX8_stand 130 = .ok (.istore 7, 2) := by decide +kernel
theorem dX8_stand_132 : decode cX8_stand 132 = .ok (.aload_n 0, 1) := by decide +kernel
theorem dX8_stand_133 : decode cX8_stand 133 = .ok (.getfield 84, 3) := by decide +kernel
theorem dX8_stand_136 : decode cX8_stand 136 = .ok (.aload_n 0, 1) := by decide +kernel
theorem dX8_stand_137 : decode cX8_stand 137 = .ok (.aload_n 0, 1) := by decide +kernel
theorem dX8_stand_138 : decode cX8_stand 138 = .ok (.getfield 255, 3) := by decide +kernel
theorem dX8_stand_141 : decode cX8_stand 141 = .ok (.iload 5, 2) := by decide +kernel
theorem dX8_stand_143 : decode cX8_stand 143 = .ok (.iload 6, 2) := by decide +kernel
theorem dX8_stand_145 : decode cX8_stand 145 = .ok (.invokevirtual 214, 3) := by decide +kernel
theorem dX8_stand_148 : decode cX8_stand 148 = .ok (.dup2, 1) := by decide +kernel
theorem dX8_stand_149 : decode cX8_stand 149 = .ok (.iaload, 1) := by decide +kernel
theorem dX8_stand_150 : decode cX8_stand 150 = .ok (.iload 7, 2) := by decide +kernel
theorem dX8_stand_152 : decode cX8_stand 152 = .ok (.iadd, 1) := by decide +kernel
theorem dX8_stand_153 : decode cX8_stand 153 = .ok (.iastore, 1) := by decide +kernel
theorem dX8_stand_154 : decode cX8_stand 154 = .ok (.iload 4, 2) := by decide +kernel
theorem dX8_stand_156 : decode cX8_stand 156 = .ok (.iload 7, 2) := by decide +kernel
theorem dX8_stand_158 : decode cX8_stand 158 = .ok (.isub, 1) := by decide +kernel
theorem dX8_stand_159 : decode cX8_stand 159 = .ok (.istore 4, 2) := by decide +kernel
theorem dX8_stand_161 : decode cX8_stand 161 = .ok (.iinc 6 1, 3) := by decide +kernel
theorem dX8_stand_164 : decode cX8_stand 164 = .ok (.goto (-62), 3) := by decide +kernel
theorem dX8_stand_167 : decode cX8_stand 167 = .ok (.iinc 5 1, 3) := by decide +kernel
theorem dX8_stand_170 : decode cX8_stand 170 = .ok (.goto (-83), 3) := by decide +kernel
theorem dX8_stand_173 : decode cX8_stand 173 = .ok (.iconst 0, 1) := by decide +kernel
theorem dX8_stand_174 : decode cX8_stand 174 = .ok (.istore 5, 2) := by decide +kernel
theorem dX8_stand_176 : decode cX8_stand 176 = .ok (.iload 5, 2) := by decide +kernel
theorem dX8_stand_178 : decode cX8_stand 178 = .ok (.iload_n 2, 1) := by decide +kernel
theorem dX8_stand_179 : decode cX8_stand 179 = .ok (.if_icmp .ge 35, 3) := by decide +kernel
theorem dX8_stand_182 : decode cX8_stand 182 = .ok (.aload_n 0, 1) := by decide +kernel
theorem dX8_stand_183 : decode cX8_stand 183 = .ok (.getfield 81, 3) := by decide +kernel
theorem dX8_stand_186 : decode cX8_stand 186 = .ok (.iload 5, 2) := by decide +kernel
theorem dX8_stand_188 : decode cX8_stand 188 = .ok (.aload_n 0, 1) := by decide +kernel
theorem dX8_stand_189 : decode cX8_stand 189 = .ok (.getfield 84, 3) := by decide +kernel
theorem dX8_stand_192 : decode cX8_stand 192 = .ok (.iload 5, 2) := by decide +kernel
theorem dX8_stand_194 : decode cX8_stand 194 = .ok (.iaload, 1) := by decide +kernel
theorem dX8_stand_195 : decode cX8_stand 195 = .ok (.iload 5, 2) := by decide +kernel
theorem dX8_stand_197 : decode cX8_stand 197 = .ok (.ifCond .ne 8, 3) := by decide +kernel
theorem dX8_stand_200 : decode cX8_stand 200 = .ok (.iload 4, 2) := by decide +kernel
theorem dX8_stand_202 : decode cX8_stand 202 = .ok (.goto 4, 3) := by decide +kernel
theorem dX8_stand_205 : decode cX8_stand 205 = .ok (.iconst 0, 1) := by decide +kernel
theorem dX8_stand_206 : decode cX8_stand 206 = .ok (.iadd, 1) := by decide +kernel
theorem dX8_stand_207 : decode cX8_stand 207 = .ok (.iastore, 1) := by decide +kernel
theorem dX8_stand_208 : decode cX8_stand 208 = .ok (.iinc 5 1, 3) := by decide +kernel
theorem dX8_stand_211 : decode cX8_stand 211 = .ok (.goto (-35), 3) := by decide +kernel
theorem dX8_stand_214 : decode cX8_stand 214 = .ok (.iinc 3 1, 3) := by decide +kernel
theorem dX8_stand_217 : decode cX8_stand 217 = .ok (.goto (-166), 3) := by decide +kernel
theorem dX8_stand_220 : decode cX8_stand 220 = .ok (.return_, 1) := by decide +kernel
theorem dX8_isBy_0 : decode cX8_isBy 0 = .ok (.iload_n 1, 1) := by decide +kernel
theorem dX8_isBy_1 : decode cX8_isBy 1 = .ok (.iconst (-1), 1) := by decide +kernel
theorem dX8_isBy_2 : decode cX8_isBy 2 = .ok (.if_icmp .eq 11, 3) := by decide +kernel
theorem dX8_isBy_5 : decode cX8_isBy 5 = .ok (.aload_n 0, 1) := by decide +kernel
theorem dX8_isBy_6 : decode cX8_isBy 6 = .ok (.iload_n 1, 1) := by decide +kernel
theorem dX8_isBy_7 : decode cX8_isBy 7 = .ok (.invokevirtual 323, 3) := by decide +kernel
theorem dX8_isBy_10 : decode cX8_isBy 10 = .ok (.ifCond .eq 7, 3) := by decide +kernel
theorem dX8_isBy_13 : decode cX8_isBy 13 = .ok (.iconst 1, 1) := by decide +kernel
theorem dX8_isBy_14 : decode cX8_isBy 14 = .ok (.goto 4, 3) := by decide +kernel
theorem dX8_isBy_17 : decode cX8_isBy 17 = .ok (.iconst 0, 1) := by decide +kernel
theorem dX8_isBy_18 : decode cX8_isBy 18 = .ok (.ireturn, 1) := by decide +kernel
theorem dX8_standing_0 : decode cX8_standing 0 = .ok (.aload_n 0, 1) := by decide +kernel
theorem dX8_standing_1 : decode cX8_standing 1 = .ok (.iload_n 1, 1) := by decide +kernel
theorem dX8_standing_2 : decode cX8_standing 2 = .ok (.invokevirtual 235, 3) := by decide +kernel
theorem dX8_standing_5 : decode cX8_standing 5 = .ok (.ifCond .eq 21, 3) := by decide +kernel
theorem dX8_standing_8 : decode cX8_standing 8 = .ok (.aload_n 0, 1) := by decide +kernel
theorem dX8_standing_9 : decode cX8_standing 9 = .ok (.iload_n 2, 1) := by decide +kernel
theorem dX8_standing_10 : decode cX8_standing 10 = .ok (.iload 6, 2) := by decide +kernel
theorem dX8_standing_12 : decode cX8_standing 12 = .ok (.invokevirtual 209, 3) := by decide +kernel
theorem dX8_standing_15 : decode cX8_standing 15 = .ok (.ifCond .eq 11, 3) := by decide +kernel
theorem dX8_standing_18 : decode cX8_standing 18 = .ok (.aload_n 0, 1) := by decide +kernel
theorem dX8_standing_19 : decode cX8_standing 19 = .ok (.iload_n 3, 1) := by decide +kernel
theorem dX8_standing_20 : decode cX8_standing 20 = .ok (.invokevirtual 341, 3) := by decide +kernel
theorem dX8_standing_23 : decode cX8_standing 23 = .ok (.ifCond .ne 6, 3) := by decide +kernel
theorem dX8_standing_26 : decode cX8_standing 26 = .ok (.ldc 197, 2) := by decide +kernel
theorem dX8_standing_28 : decode cX8_standing 28 = .ok (.ireturn, 1) := by decide +kernel
theorem dX8_standing_29 : decode cX8_standing 29 = .ok (.iload 4, 2) := by decide +kernel
theorem dX8_standing_31 : decode cX8_standing 31 = .ok (.invokestatic 305, 3) := by decide +kernel
theorem dX8_standing_34 : decode cX8_standing 34 = .ok (.ifCond .eq 16, 3) := by decide +kernel
theorem dX8_standing_37 : decode cX8_standing 37 = .ok (.iload 5, 2) := by decide +kernel
theorem dX8_standing_39 : decode cX8_standing 39 = .ok (.i2l, 1) := by decide +kernel
theorem dX8_standing_40 : decode cX8_standing 40 = .ok (.lconst 0, 1) := by decide +kernel
theorem dX8_standing_41 : decode cX8_standing 41 = .ok (.ldc2_w 117, 3) := by decide +kernel
theorem dX8_standing_44 : decode cX8_standing 44 = .ok (.invokestatic 109, 3) := by decide +kernel
theorem dX8_standing_47 : decode cX8_standing 47 = .ok (.ifCond .ne 6, 3) := by decide +kernel
theorem dX8_standing_50 : decode cX8_standing 50 = .ok (.ldc 121, 2) := by decide +kernel
theorem dX8_standing_52 : decode cX8_standing 52 = .ok (.ireturn, 1) := by decide +kernel
theorem dX8_standing_53 : decode cX8_standing 53 = .ok (.aload_n 0, 1) := by decide +kernel
theorem dX8_standing_54 : decode cX8_standing 54 = .ok (.iload_n 1, 1) := by decide +kernel
theorem dX8_standing_55 : decode cX8_standing 55 = .ok (.iload_n 2, 1) := by decide +kernel
theorem dX8_standing_56 : decode cX8_standing 56 = .ok (.iload_n 3, 1) := by decide +kernel
theorem dX8_standing_57 : decode cX8_standing 57 = .ok (.iload 4, 2) := by decide +kernel
theorem dX8_standing_59 : decode cX8_standing 59 = .ok (.invokevirtual 308, 3) := by decide +kernel
theorem dX8_standing_62 : decode cX8_standing 62 = .ok (.aload_n 0, 1) := by decide +kernel
theorem dX8_standing_63 : decode cX8_standing 63 = .ok (.iload 5, 2) := by decide +kernel
theorem dX8_standing_65 : decode cX8_standing 65 = .ok (.invokevirtual 344, 3) := by decide +kernel
theorem dX8_standing_68 : decode cX8_standing 68 = .ok (.aload_n 0, 1) := by decide +kernel
theorem dX8_standing_69 : decode cX8_standing 69 = .ok (.getfield 81, 3) := by decide +kernel
theorem dX8_standing_72 : decode cX8_standing 72 = .ok (.iload 6, 2) := by decide +kernel
theorem dX8_standing_74 : decode cX8_standing 74 = .ok (.iaload, 1) := by decide +kernel
theorem dX8_standing_75 : decode cX8_standing 75 = .ok (.ireturn, 1) := by decide +kernel
theorem dX8_odds_0 : decode cX8_odds 0 = .ok (.aload_n 0, 1) := by decide +kernel
theorem dX8_odds_1 : decode cX8_odds 1 = .ok (.iload_n 1, 1) := by decide +kernel
theorem dX8_odds_2 : decode cX8_odds 2 = .ok (.invokevirtual 235, 3) := by decide +kernel
theorem dX8_odds_5 : decode cX8_odds 5 = .ok (.ifCond .eq 21, 3) := by decide +kernel
theorem dX8_odds_8 : decode cX8_odds 8 = .ok (.aload_n 0, 1) := by decide +kernel
theorem dX8_odds_9 : decode cX8_odds 9 = .ok (.iload_n 2, 1) := by decide +kernel
theorem dX8_odds_10 : decode cX8_odds 10 = .ok (.iload 5, 2) := by decide +kernel
theorem dX8_odds_12 : decode cX8_odds 12 = .ok (.invokevirtual 209, 3) := by decide +kernel
theorem dX8_odds_15 : decode cX8_odds 15 = .ok (.ifCond .eq 11, 3) := by decide +kernel
theorem dX8_odds_18 : decode cX8_odds 18 = .ok (.aload_n 0, 1) := by decide +kernel
theorem dX8_odds_19 : decode cX8_odds 19 = .ok (.iload_n 3, 1) := by decide +kernel
theorem dX8_odds_20 : decode cX8_odds 20 = .ok (.invokevirtual 341, 3) := by decide +kernel
theorem dX8_odds_23 : decode cX8_odds 23 = .ok (.ifCond .ne 6, 3) := by decide +kernel
theorem dX8_odds_26 : decode cX8_odds 26 = .ok (.ldc 197, 2) := by decide +kernel
theorem dX8_odds_28 : decode cX8_odds 28 = .ok (.ireturn, 1) := by decide +kernel
theorem dX8_odds_29 : decode cX8_odds 29 = .ok (.iload 4, 2) := by decide +kernel
theorem dX8_odds_31 : decode cX8_odds 31 = .ok (.invokestatic 305, 3) := by decide +kernel
theorem dX8_odds_34 : decode cX8_odds 34 = .ok (.ifCond .eq 16, 3) := by decide +kernel
theorem dX8_odds_37 : decode cX8_odds 37 = .ok (.iload 6, 2) := by decide +kernel
theorem dX8_odds_39 : decode cX8_odds 39 = .ok (.i2l, 1) := by decide +kernel
theorem dX8_odds_40 : decode cX8_odds 40 = .ok (.lconst 0, 1) := by decide +kernel
theorem dX8_odds_41 : decode cX8_odds 41 = .ok (.ldc2_w 212, 3) := by decide +kernel
theorem dX8_odds_44 : decode cX8_odds 44 = .ok (.invokestatic 109, 3) := by decide +kernel
theorem dX8_odds_47 : decode cX8_odds 47 = .ok (.ifCond .ne 6, 3) := by decide +kernel
theorem dX8_odds_50 : decode cX8_odds 50 = .ok (.ldc 121, 2) := by decide +kernel
theorem dX8_odds_52 : decode cX8_odds 52 = .ok (.ireturn, 1) := by decide +kernel
theorem dX8_odds_53 : decode cX8_odds 53 = .ok (.aload_n 0, 1) := by decide +kernel
theorem dX8_odds_54 : decode cX8_odds 54 = .ok (.iload_n 1, 1) := by decide +kernel
theorem dX8_odds_55 : decode cX8_odds 55 = .ok (.iload_n 2, 1) := by decide +kernel
theorem dX8_odds_56 : decode cX8_odds 56 = .ok (.iload_n 3, 1) := by decide +kernel
theorem dX8_odds_57 : decode cX8_odds 57 = .ok (.iload 4, 2) := by decide +kernel
theorem dX8_odds_59 : decode cX8_odds 59 = .ok (.invokevirtual 308, 3) := by decide +kernel
theorem dX8_odds_62 : decode cX8_odds 62 = .ok (.aload_n 0, 1) := by decide +kernel
theorem dX8_odds_63 : decode cX8_odds 63 = .ok (.iload 5, 2) := by decide +kernel
theorem dX8_odds_65 : decode cX8_odds 65 = .ok (.invokevirtual 337, 3) := by decide +kernel
theorem dX8_odds_68 : decode cX8_odds 68 = .ok (.aload_n 0, 1) := by decide +kernel
theorem dX8_odds_69 : decode cX8_odds 69 = .ok (.getfield 75, 3) := by decide +kernel
theorem dX8_odds_72 : decode cX8_odds 72 = .ok (.iload 6, 2) := by decide +kernel
theorem dX8_odds_74 : decode cX8_odds 74 = .ok (.iaload, 1) := by decide +kernel
theorem dX8_odds_75 : decode cX8_odds 75 = .ok (.ireturn, 1) := by decide +kernel
theorem dX8_evenAt_0 : decode cX8_evenAt 0 = .ok (.aload_n 0, 1) := by decide +kernel
theorem dX8_evenAt_1 : decode cX8_evenAt 1 = .ok (.iload_n 1, 1) := by decide +kernel
theorem dX8_evenAt_2 : decode cX8_evenAt 2 = .ok (.invokevirtual 344, 3) := by decide +kernel
theorem dX8_evenAt_5 : decode cX8_evenAt 5 = .ok (.lconst 0, 1) := by decide +kernel
theorem dX8_evenAt_6 : decode cX8_evenAt 6 = .ok (.lstore_n 3, 1) := by decide +kernel
theorem dX8_evenAt_7 : decode cX8_evenAt 7 = .ok (.lconst 0, 1) := by decide +kernel
theorem dX8_evenAt_8 : decode cX8_evenAt 8 = .ok (.lstore 5, 2) := by decide +kernel
theorem dX8_evenAt_10 : decode cX8_evenAt 10 = .ok (.iconst 0, 1) := by decide +kernel
theorem dX8_evenAt_11 : decode cX8_evenAt 11 = .ok (.istore 7, 2) := by decide +kernel
theorem dX8_evenAt_13 : decode cX8_evenAt 13 = .ok (.iload 7, 2) := by decide +kernel
theorem dX8_evenAt_15 : decode cX8_evenAt 15 = .ok (.aload_n 0, 1) := by decide +kernel
theorem dX8_evenAt_16 : decode cX8_evenAt 16 = .ok (.getfield 7, 3) := by decide +kernel
theorem dX8_evenAt_19 : decode cX8_evenAt 19 = .ok (.aload_n 0, 1) := by decide +kernel
theorem dX8_evenAt_20 : decode cX8_evenAt 20 = .ok (.getfield 255, 3) := by decide +kernel
theorem dX8_evenAt_23 : decode cX8_evenAt 23 = .ok (.iaload, 1) := by decide +kernel
theorem dX8_evenAt_24 : decode cX8_evenAt 24 = .ok (.if_icmp .ge 69, 3) := by decide +kernel
theorem dX8_evenAt_27 : decode cX8_evenAt 27 = .ok (.aload_n 0, 1) := by decide +kernel
theorem dX8_evenAt_28 : decode cX8_evenAt 28 = .ok (.iload 7, 2) := by decide +kernel
theorem dX8_evenAt_30 : decode cX8_evenAt 30 = .ok (.invokevirtual 337, 3) := by decide +kernel
theorem dX8_evenAt_33 : decode cX8_evenAt 33 = .ok (.lload_n 3, 1) := by decide +kernel
theorem dX8_evenAt_34 : decode cX8_evenAt 34 = .ok (.aload_n 0, 1) := by decide +kernel
theorem dX8_evenAt_35 : decode cX8_evenAt 35 = .ok (.getfield 81, 3) := by decide +kernel
theorem dX8_evenAt_38 : decode cX8_evenAt 38 = .ok (.iload 7, 2) := by decide +kernel
theorem dX8_evenAt_40 : decode cX8_evenAt 40 = .ok (.iaload, 1) := by decide +kernel
theorem dX8_evenAt_41 : decode cX8_evenAt 41 = .ok (.i2l, 1) := by decide +kernel
theorem dX8_evenAt_42 : decode cX8_evenAt 42 = .ok (.aload_n 0, 1) := by decide +kernel
theorem dX8_evenAt_43 : decode cX8_evenAt 43 = .ok (.getfield 13, 3) := by decide +kernel
theorem dX8_evenAt_46 : decode cX8_evenAt 46 = .ok (.bipush 10, 2) := by decide +kernel
theorem dX8_evenAt_48 : decode cX8_evenAt 48 = .ok (.aload_n 0, 1) := by decide +kernel
theorem dX8_evenAt_49 : decode cX8_evenAt 49 = .ok (.getfield 255, 3) := by decide +kernel
theorem dX8_evenAt_52 : decode cX8_evenAt 52 = .ok (.imul, 1) := by decide +kernel
theorem dX8_evenAt_53 : decode cX8_evenAt 53 = .ok (.iload 7, 2) := by decide +kernel
theorem dX8_evenAt_55 : decode cX8_evenAt 55 = .ok (.iadd, 1) := by decide +kernel
theorem dX8_evenAt_56 : decode cX8_evenAt 56 = .ok (.iaload, 1) := by decide +kernel
theorem dX8_evenAt_57 : decode cX8_evenAt 57 = .ok (.i2l, 1) := by decide +kernel
theorem dX8_evenAt_58 : decode cX8_evenAt 58 = .ok (.lmul, 1) := by decide +kernel
theorem dX8_evenAt_59 : decode cX8_evenAt 59 = .ok (.ldc2_w 276, 3) := by decide +kernel
theorem dX8_evenAt_62 : decode cX8_evenAt 62 = .ok (.ldiv, 1) := by decide +kernel
theorem dX8_evenAt_63 : decode cX8_evenAt 63 = .ok (.ladd, 1) := by decide +kernel
theorem dX8_evenAt_64 : decode cX8_evenAt 64 = .ok (.lstore_n 3, 1) := by decide +kernel
theorem dX8_evenAt_65 : decode cX8_evenAt 65 = .ok (.lload 5, 2) := by decide +kernel
theorem dX8_evenAt_67 : decode cX8_evenAt 67 = .ok (.aload_n 0, 1) := by decide +kernel
theorem dX8_evenAt_68 : decode cX8_evenAt 68 = .ok (.getfield 81, 3) := by decide +kernel
theorem dX8_evenAt_71 : decode cX8_evenAt 71 = .ok (.iload 7, 2) := by decide +kernel
theorem dX8_evenAt_73 : decode cX8_evenAt 73 = .ok (.iaload, 1) := by decide +kernel
theorem dX8_evenAt_74 : decode cX8_evenAt 74 = .ok (.i2l, 1) := by decide +kernel
theorem dX8_evenAt_75 : decode cX8_evenAt 75 = .ok (.aload_n 0, 1) := by decide +kernel
theorem dX8_evenAt_76 : decode cX8_evenAt 76 = .ok (.getfield 331, 3) := by decide +kernel
theorem dX8_evenAt_79 : decode cX8_evenAt 79 = .ok (.lmul, 1) := by decide +kernel
theorem dX8_evenAt_80 : decode cX8_evenAt 80 = .ok (.ldc2_w 335, 3) := by decide +kernel
theorem dX8_evenAt_83 : decode cX8_evenAt 83 = .ok (.ldiv, 1) := by decide +kernel
theorem dX8_evenAt_84 : decode cX8_evenAt 84 = .ok (.ladd, 1) := by decide +kernel
theorem dX8_evenAt_85 : decode cX8_evenAt 85 = .ok (.lstore 5, 2) := by decide +kernel
theorem dX8_evenAt_87 : decode cX8_evenAt 87 = .ok (.iinc 7 1, 3) := by decide +kernel
theorem dX8_evenAt_90 : decode cX8_evenAt 90 = .ok (.goto (-77), 3) := by decide +kernel
theorem dX8_evenAt_93 : decode cX8_evenAt 93 = .ok (.iload_n 2, 1) := by decide +kernel
theorem dX8_evenAt_94 : decode cX8_evenAt 94 = .ok (.ifCond .ne 7, 3) := by decide +kernel
theorem dX8_evenAt_97 : decode cX8_evenAt 97 = .ok (.lload_n 3, 1) := by decide +kernel
theorem dX8_evenAt_98 : decode cX8_evenAt 98 = .ok (.goto 17, 3) := by decide +kernel
theorem dX8_evenAt_101 : decode cX8_evenAt 101 = .ok (.iload_n 2, 1) := by decide +kernel
theorem dX8_evenAt_102 : decode cX8_evenAt 102 = .ok (.iconst 1, 1) := by decide +kernel
theorem dX8_evenAt_103 : decode cX8_evenAt 103 = .ok (.if_icmp .ne 8, 3) := by decide +kernel
theorem dX8_evenAt_106 : decode cX8_evenAt 106 = .ok (.lload 5, 2) := by decide +kernel
theorem dX8_evenAt_108 : decode cX8_evenAt 108 = .ok (.goto 7, 3) := by decide +kernel
theorem dX8_evenAt_111 : decode cX8_evenAt 111 = .ok (.lload_n 3, 1) := by decide +kernel
theorem dX8_evenAt_112 : decode cX8_evenAt 112 = .ok (.lload 5, 2) := by decide +kernel
theorem dX8_evenAt_114 : decode cX8_evenAt 114 = .ok (.lsub, 1) := by decide +kernel
theorem dX8_evenAt_115 : decode cX8_evenAt 115 = .ok (.l2i, 1) := by decide +kernel
theorem dX8_evenAt_116 : decode cX8_evenAt 116 = .ok (.ireturn, 1) := by decide +kernel
theorem dX8_even_0 : decode cX8_even 0 = .ok (.aload_n 0, 1) := by decide +kernel
theorem dX8_even_1 : decode cX8_even 1 = .ok (.iload_n 1, 1) := by decide +kernel
theorem dX8_even_2 : decode cX8_even 2 = .ok (.invokevirtual 235, 3) := by decide +kernel
theorem dX8_even_5 : decode cX8_even 5 = .ok (.ifCond .eq 19, 3) := by decide +kernel
theorem dX8_even_8 : decode cX8_even 8 = .ok (.aload_n 0, 1) := by decide +kernel
theorem dX8_even_9 : decode cX8_even 9 = .ok (.iload_n 2, 1) := by decide +kernel
theorem dX8_even_10 : decode cX8_even 10 = .ok (.invokevirtual 113, 3) := by decide +kernel
theorem dX8_even_13 : decode cX8_even 13 = .ok (.ifCond .eq 11, 3) := by decide +kernel
theorem dX8_even_16 : decode cX8_even 16 = .ok (.aload_n 0, 1) := by decide +kernel
theorem dX8_even_17 : decode cX8_even 17 = .ok (.iload_n 3, 1) := by decide +kernel
theorem dX8_even_18 : decode cX8_even 18 = .ok (.invokevirtual 341, 3) := by decide +kernel
theorem dX8_even_21 : decode cX8_even 21 = .ok (.ifCond .ne 6, 3) := by decide +kernel
theorem dX8_even_24 : decode cX8_even 24 = .ok (.ldc 197, 2) := by decide +kernel
theorem dX8_even_26 : decode cX8_even 26 = .ok (.ireturn, 1) := by decide +kernel
theorem dX8_even_27 : decode cX8_even 27 = .ok (.iload 4, 2) := by decide +kernel
theorem dX8_even_29 : decode cX8_even 29 = .ok (.invokestatic 305, 3) := by decide +kernel
theorem dX8_even_32 : decode cX8_even 32 = .ok (.ifCond .eq 29, 3) := by decide +kernel
theorem dX8_even_35 : decode cX8_even 35 = .ok (.iload 5, 2) := by decide +kernel
theorem dX8_even_37 : decode cX8_even 37 = .ok (.i2l, 1) := by decide +kernel
theorem dX8_even_38 : decode cX8_even 38 = .ok (.lconst 0, 1) := by decide +kernel
theorem dX8_even_39 : decode cX8_even 39 = .ok (.ldc2_w 117, 3) := by decide +kernel
theorem dX8_even_42 : decode cX8_even 42 = .ok (.invokestatic 109, 3) := by decide +kernel
theorem dX8_even_45 : decode cX8_even 45 = .ok (.ifCond .eq 16, 3) := by decide +kernel
theorem dX8_even_48 : decode cX8_even 48 = .ok (.iload 6, 2) := by decide +kernel
theorem dX8_even_50 : decode cX8_even 50 = .ok (.i2l, 1) := by decide +kernel
theorem dX8_even_51 : decode cX8_even 51 = .ok (.lconst 0, 1) := by decide +kernel
theorem dX8_even_52 : decode cX8_even 52 = .ok (.ldc2_w 347, 3) := by decide +kernel
theorem dX8_even_55 : decode cX8_even 55 = .ok (.invokestatic 109, 3) := by decide +kernel
theorem dX8_even_58 : decode cX8_even 58 = .ok (.ifCond .ne 6, 3) := by decide +kernel
theorem dX8_even_61 : decode cX8_even 61 = .ok (.ldc 121, 2) := by decide +kernel
theorem dX8_even_63 : decode cX8_even 63 = .ok (.ireturn, 1) := by decide +kernel
theorem dX8_even_64 : decode cX8_even 64 = .ok (.aload_n 0, 1) := by decide +kernel
theorem dX8_even_65 : decode cX8_even 65 = .ok (.iload_n 1, 1) := by decide +kernel
theorem dX8_even_66 : decode cX8_even 66 = .ok (.iload_n 2, 1) := by decide +kernel
theorem dX8_even_67 : decode cX8_even 67 = .ok (.iload_n 3, 1) := by decide +kernel
theorem dX8_even_68 : decode cX8_even 68 = .ok (.iload 4, 2) := by decide +kernel
theorem dX8_even_70 : decode cX8_even 70 = .ok (.invokevirtual 308, 3) := by decide +kernel
theorem dX8_even_73 : decode cX8_even 73 = .ok (.aload_n 0, 1) := by decide +kernel
theorem dX8_even_74 : decode cX8_even 74 = .ok (.iload 5, 2) := by decide +kernel
theorem dX8_even_76 : decode cX8_even 76 = .ok (.iload 6, 2) := by decide +kernel
theorem dX8_even_78 : decode cX8_even 78 = .ok (.invokevirtual 349, 3) := by decide +kernel
theorem dX8_even_81 : decode cX8_even 81 = .ok (.ireturn, 1) := by decide +kernel
theorem dX8_year_0 : decode cX8_year 0 = .ok (.iload_n 1, 1) := by decide +kernel
theorem dX8_year_1 : decode cX8_year 1 = .ok (.i2l, 1) := by decide +kernel
theorem dX8_year_2 : decode cX8_year 2 = .ok (.lconst 0, 1) := by decide +kernel
theorem dX8_year_3 : decode cX8_year 3 = .ok (.ldc2_w 352, 3) := by decide +kernel
theorem dX8_year_6 : decode cX8_year 6 = .ok (.invokestatic 109, 3) := by decide +kernel
theorem dX8_year_9 : decode cX8_year 9 = .ok (.ifCond .eq 15, 3) := by decide +kernel
theorem dX8_year_12 : decode cX8_year 12 = .ok (.iload_n 2, 1) := by decide +kernel
theorem dX8_year_13 : decode cX8_year 13 = .ok (.i2l, 1) := by decide +kernel
theorem dX8_year_14 : decode cX8_year 14 = .ok (.lconst 0, 1) := by decide +kernel
theorem dX8_year_15 : decode cX8_year 15 = .ok (.ldc2_w 212, 3) := by decide +kernel
theorem dX8_year_18 : decode cX8_year 18 = .ok (.invokestatic 109, 3) := by decide +kernel
theorem dX8_year_21 : decode cX8_year 21 = .ok (.ifCond .ne 6, 3) := by decide +kernel
theorem dX8_year_24 : decode cX8_year 24 = .ok (.ldc 121, 2) := by decide +kernel
theorem dX8_year_26 : decode cX8_year 26 = .ok (.ireturn, 1) := by decide +kernel
theorem dX8_year_27 : decode cX8_year 27 = .ok (.aload_n 0, 1) := by decide +kernel
theorem dX8_year_28 : decode cX8_year 28 = .ok (.getfield 354, 3) := by decide +kernel
theorem dX8_year_31 : decode cX8_year 31 = .ok (.bipush 8, 2) := by decide +kernel
theorem dX8_year_33 : decode cX8_year 33 = .ok (.if_icmp .ne 6, 3) := by decide +kernel
theorem dX8_year_36 : decode cX8_year 36 = .ok (.ldc 125, 2) := by decide +kernel
theorem dX8_year_38 : decode cX8_year 38 = .ok (.ireturn, 1) := by decide +kernel
theorem dX8_year_39 : decode cX8_year 39 = .ok (.aload_n 0, 1) := by decide +kernel
theorem dX8_year_40 : decode cX8_year 40 = .ok (.getfield 87, 3) := by decide +kernel
theorem dX8_year_43 : decode cX8_year 43 = .ok (.aload_n 0, 1) := by decide +kernel
theorem dX8_year_44 : decode cX8_year 44 = .ok (.getfield 354, 3) := by decide +kernel
theorem dX8_year_47 : decode cX8_year 47 = .ok (.iload_n 1, 1) := by decide +kernel
theorem dX8_year_48 : decode cX8_year 48 = .ok (.iastore, 1) := by decide +kernel
theorem dX8_year_49 : decode cX8_year 49 = .ok (.aload_n 0, 1) := by decide +kernel
theorem dX8_year_50 : decode cX8_year 50 = .ok (.getfield 90, 3) := by decide +kernel
theorem dX8_year_53 : decode cX8_year 53 = .ok (.aload_n 0, 1) := by decide +kernel
theorem dX8_year_54 : decode cX8_year 54 = .ok (.getfield 354, 3) := by decide +kernel
theorem dX8_year_57 : decode cX8_year 57 = .ok (.iload_n 2, 1) := by decide +kernel
theorem dX8_year_58 : decode cX8_year 58 = .ok (.iastore, 1) := by decide +kernel
theorem dX8_year_59 : decode cX8_year 59 = .ok (.aload_n 0, 1) := by decide +kernel
theorem dX8_year_60 : decode cX8_year 60 = .ok (.dup, 1) := by decide +kernel
theorem dX8_year_61 : decode cX8_year 61 = .ok (.getfield 354, 3) := by decide +kernel
theorem dX8_year_64 : decode cX8_year 64 = .ok (.iconst 1, 1) := by decide +kernel
theorem dX8_year_65 : decode cX8_year 65 = .ok (.iadd, 1) := by decide +kernel
theorem dX8_year_66 : decode cX8_year 66 = .ok (.putfield 354, 3) := by decide +kernel
theorem dX8_year_69 : decode cX8_year 69 = .ok (.aload_n 0, 1) := by decide +kernel
theorem dX8_year_70 : decode cX8_year 70 = .ok (.getfield 354, 3) := by decide +kernel
theorem dX8_year_73 : decode cX8_year 73 = .ok (.ireturn, 1) := by decide +kernel
theorem dX8_clear_0 : decode cX8_clear 0 = .ok (.aload_n 0, 1) := by decide +kernel
theorem dX8_clear_1 : decode cX8_clear 1 = .ok (.getfield 354, 3) := by decide +kernel
theorem dX8_clear_4 : decode cX8_clear 4 = .ok (.aload_n 0, 1) := by decide +kernel
theorem dX8_clear_5 : decode cX8_clear 5 = .ok (.getfield 328, 3) := by decide +kernel
theorem dX8_clear_8 : decode cX8_clear 8 = .ok (.iadd, 1) := by decide +kernel
theorem dX8_clear_9 : decode cX8_clear 9 = .ok (.istore_n 1, 1) := by decide +kernel
theorem dX8_clear_10 : decode cX8_clear 10 = .ok (.aload_n 0, 1) := by decide +kernel
theorem dX8_clear_11 : decode cX8_clear 11 = .ok (.iconst 0, 1) := by decide +kernel
theorem dX8_clear_12 : decode cX8_clear 12 = .ok (.putfield 354, 3) := by decide +kernel
theorem dX8_clear_15 : decode cX8_clear 15 = .ok (.aload_n 0, 1) := by decide +kernel
theorem dX8_clear_16 : decode cX8_clear 16 = .ok (.iconst 0, 1) := by decide +kernel
theorem dX8_clear_17 : decode cX8_clear 17 = .ok (.putfield 328, 3) := by decide +kernel
theorem dX8_clear_20 : decode cX8_clear 20 = .ok (.iload_n 1, 1) := by decide +kernel
theorem dX8_clear_21 : decode cX8_clear 21 = .ok (.ireturn, 1) := by decide +kernel
theorem dX8_weigh_0 : decode cX8_weigh 0 = .ok (.iconst 0, 1) := by decide +kernel
theorem dX8_weigh_1 : decode cX8_weigh 1 = .ok (.istore_n 3, 1) := by decide +kernel
theorem dX8_weigh_2 : decode cX8_weigh 2 = .ok (.iload_n 3, 1) := by decide +kernel
theorem dX8_weigh_3 : decode cX8_weigh 3 = .ok (.aload_n 0, 1) := by decide +kernel
theorem dX8_weigh_4 : decode cX8_weigh 4 = .ok (.getfield 106, 3) := by decide +kernel
theorem dX8_weigh_7 : decode cX8_weigh 7 = .ok (.if_icmp .ge 79, 3) := by decide +kernel
theorem dX8_weigh_10 : decode cX8_weigh 10 = .ok (.aload_n 0, 1) := by decide +kernel
theorem dX8_weigh_11 : decode cX8_weigh 11 = .ok (.getfield 93, 3) := by decide +kernel
theorem dX8_weigh_14 : decode cX8_weigh 14 = .ok (.iload_n 3, 1) := by decide +kernel
theorem dX8_weigh_15 : decode cX8_weigh 15 = .ok (.ldc2_w 357, 3) := by decide +kernel
theorem dX8_weigh_18 : decode cX8_weigh 18 = .ok (.lastore, 1) := by decide +kernel
theorem dX8_weigh_19 : decode cX8_weigh 19 = .ok (.aload_n 0, 1) := by decide +kernel
theorem dX8_weigh_20 : decode cX8_weigh 20 = .ok (.iload_n 3, 1) := by decide +kernel
theorem dX8_weigh_21 : decode cX8_weigh 21 = .ok (.iload_n 1, 1) := by decide +kernel
theorem dX8_weigh_22 : decode cX8_weigh 22 = .ok (.iconst (-1), 1) := by decide +kernel
theorem dX8_weigh_23 : decode cX8_weigh 23 = .ok (.iload_n 2, 1) := by decide +kernel
theorem dX8_weigh_24 : decode cX8_weigh 24 = .ok (.invokevirtual 308, 3) := by decide +kernel
theorem dX8_weigh_27 : decode cX8_weigh 27 = .ok (.iconst 0, 1) := by decide +kernel
theorem dX8_weigh_28 : decode cX8_weigh 28 = .ok (.istore 4, 2) := by decide +kernel
theorem dX8_weigh_30 : decode cX8_weigh 30 = .ok (.iload 4, 2) := by decide +kernel
theorem dX8_weigh_32 : decode cX8_weigh 32 = .ok (.aload_n 0, 1) := by decide +kernel
theorem dX8_weigh_33 : decode cX8_weigh 33 = .ok (.getfield 354, 3) := by decide +kernel
theorem dX8_weigh_36 : decode cX8_weigh 36 = .ok (.if_icmp .ge 44, 3) := by decide +kernel
theorem dX8_weigh_39 : decode cX8_weigh 39 = .ok (.aload_n 0, 1) := by decide +kernel
theorem dX8_weigh_40 : decode cX8_weigh 40 = .ok (.aload_n 0, 1) := by decide +kernel
theorem dX8_weigh_41 : decode cX8_weigh 41 = .ok (.getfield 87, 3) := by decide +kernel
theorem dX8_weigh_44 : decode cX8_weigh 44 = .ok (.iload 4, 2) := by decide +kernel
theorem dX8_weigh_46 : decode cX8_weigh 46 = .ok (.iaload, 1) := by decide +kernel
theorem dX8_weigh_47 : decode cX8_weigh 47 = .ok (.invokevirtual 337, 3) := by decide +kernel
theorem dX8_weigh_50 : decode cX8_weigh 50 = .ok (.aload_n 0, 1) := by decide +kernel
theorem dX8_weigh_51 : decode cX8_weigh 51 = .ok (.getfield 97, 3) := by decide +kernel
theorem dX8_weigh_54 : decode cX8_weigh 54 = .ok (.bipush 8, 2) := by decide +kernel
theorem dX8_weigh_56 : decode cX8_weigh 56 = .ok (.iload_n 3, 1) := by decide +kernel
theorem dX8_weigh_57 : decode cX8_weigh 57 = .ok (.imul, 1) := by decide +kernel
theorem dX8_weigh_58 : decode cX8_weigh 58 = .ok (.iload 4, 2) := by decide +kernel
theorem dX8_weigh_60 : decode cX8_weigh 60 = .ok (.iadd, 1) := by decide +kernel
theorem dX8_weigh_61 : decode cX8_weigh 61 = .ok (.aload_n 0, 1) := by decide +kernel
theorem dX8_weigh_62 : decode cX8_weigh 62 = .ok (.getfield 75, 3) := by decide +kernel
theorem dX8_weigh_65 : decode cX8_weigh 65 = .ok (.aload_n 0, 1) := by decide +kernel
theorem dX8_weigh_66 : decode cX8_weigh 66 = .ok (.getfield 90, 3) := by decide +kernel
theorem dX8_weigh_69 : decode cX8_weigh 69 = .ok (.iload 4, 2) := by decide +kernel
theorem dX8_weigh_71 : decode cX8_weigh 71 = .ok (.iaload, 1) := by decide +kernel
theorem dX8_weigh_72 : decode cX8_weigh 72 = .ok (.iaload, 1) := by decide +kernel
theorem dX8_weigh_73 : decode cX8_weigh 73 = .ok (.iastore, 1) := by decide +kernel
theorem dX8_weigh_74 : decode cX8_weigh 74 = .ok (.iinc 4 1, 3) := by decide +kernel
theorem dX8_weigh_77 : decode cX8_weigh 77 = .ok (.goto (-47), 3) := by decide +kernel
theorem dX8_weigh_80 : decode cX8_weigh 80 = .ok (.iinc 3 1, 3) := by decide +kernel
theorem dX8_weigh_83 : decode cX8_weigh 83 = .ok (.goto (-81), 3) := by decide +kernel
theorem dX8_weigh_86 : decode cX8_weigh 86 = .ok (.iconst 0, 1) := by decide +kernel
theorem dX8_weigh_87 : decode cX8_weigh 87 = .ok (.istore_n 3, 1) := by decide +kernel
theorem dX8_weigh_88 : decode cX8_weigh 88 = .ok (.iload_n 3, 1) := by decide +kernel
theorem dX8_weigh_89 : decode cX8_weigh 89 = .ok (.aload_n 0, 1) := by decide +kernel
theorem dX8_weigh_90 : decode cX8_weigh 90 = .ok (.getfield 354, 3) := by decide +kernel
theorem dX8_weigh_93 : decode cX8_weigh 93 = .ok (.if_icmp .ge 135, 3) := by decide +kernel
theorem dX8_weigh_96 : decode cX8_weigh 96 = .ok (.lconst 0, 1) := by decide +kernel
theorem dX8_weigh_97 : decode cX8_weigh 97 = .ok (.lstore 4, 2) := by decide +kernel
theorem dX8_weigh_99 : decode cX8_weigh 99 = .ok (.iconst 0, 1) := by decide +kernel
theorem dX8_weigh_100 : decode cX8_weigh 100 = .ok (.istore 6, 2) := by decide +kernel
theorem dX8_weigh_102 : decode cX8_weigh 102 = .ok (.iload 6, 2) := by decide +kernel
theorem dX8_weigh_104 : decode cX8_weigh 104 = .ok (.aload_n 0, 1) := by decide +kernel
theorem dX8_weigh_105 : decode cX8_weigh 105 = .ok (.getfield 106, 3) := by decide +kernel
theorem dX8_weigh_108 : decode cX8_weigh 108 = .ok (.if_icmp .ge 68, 3) := by decide +kernel
theorem dX8_weigh_111 : decode cX8_weigh 111 = .ok (.aload_n 0, 1) := by decide +kernel
theorem dX8_weigh_112 : decode cX8_weigh 112 = .ok (.getfield 93, 3) := by decide +kernel
theorem dX8_weigh_115 : decode cX8_weigh 115 = .ok (.iload 6, 2) := by decide +kernel
theorem dX8_weigh_117 : decode cX8_weigh 117 = .ok (.aload_n 0, 1) := by decide +kernel
theorem dX8_weigh_118 : decode cX8_weigh 118 = .ok (.getfield 93, 3) := by decide +kernel
theorem dX8_weigh_121 : decode cX8_weigh 121 = .ok (.iload 6, 2) := by decide +kernel
theorem dX8_weigh_123 : decode cX8_weigh 123 = .ok (.laload, 1) := by decide +kernel
theorem dX8_weigh_124 : decode cX8_weigh 124 = .ok (.aload_n 0, 1) := by decide +kernel
theorem dX8_weigh_125 : decode cX8_weigh 125 = .ok (.getfield 97, 3) := by decide +kernel
theorem dX8_weigh_128 : decode cX8_weigh 128 = .ok (.bipush 8, 2) := by decide +kernel
theorem dX8_weigh_130 : decode cX8_weigh 130 = .ok (.iload 6, 2) := by decide +kernel
theorem dX8_weigh_132 : decode cX8_weigh 132 = .ok (.imul, 1) := by decide +kernel
theorem dX8_weigh_133 : decode cX8_weigh 133 = .ok (.iload_n 3, 1) := by decide +kernel
theorem dX8_weigh_134 : decode cX8_weigh 134 = .ok (.iadd, 1) := by decide +kernel
theorem dX8_weigh_135 : decode cX8_weigh 135 = .ok (.iaload, 1) := by decide +kernel
theorem dX8_weigh_136 : decode cX8_weigh 136 = .ok (.i2l, 1) := by decide +kernel
theorem dX8_weigh_137 : decode cX8_weigh 137 = .ok (.lmul, 1) := by decide +kernel
theorem dX8_weigh_138 : decode cX8_weigh 138 = .ok (.ldc2_w 335, 3) := by decide +kernel
theorem dX8_weigh_141 : decode cX8_weigh 141 = .ok (.ldiv, 1) := by decide +kernel
theorem dX8_weigh_142 : decode cX8_weigh 142 = .ok (.lastore, 1) := by decide +kernel
theorem dX8_weigh_143 : decode cX8_weigh 143 = .ok (.aload_n 0, 1) := by decide +kernel
theorem dX8_weigh_144 : decode cX8_weigh 144 = .ok (.getfield 93, 3) := by decide +kernel
theorem dX8_weigh_147 : decode cX8_weigh 147 = .ok (.iload 6, 2) := by decide +kernel
theorem dX8_weigh_149 : decode cX8_weigh 149 = .ok (.laload, 1) := by decide +kernel
theorem dX8_weigh_150 : decode cX8_weigh 150 = .ok (.lload 4, 2) := by decide +kernel
theorem dX8_weigh_152 : decode cX8_weigh 152 = .ok (.lcmp, 1) := by decide +kernel
theorem dX8_weigh_153 : decode cX8_weigh 153 = .ok (.ifCond .le 13, 3) := by decide +kernel
theorem dX8_weigh_156 : decode cX8_weigh 156 = .ok (.aload_n 0, 1) := by decide +kernel
theorem dX8_weigh_157 : decode cX8_weigh 157 = .ok (.getfield 93, 3) := by decide +kernel
theorem dX8_weigh_160 : decode cX8_weigh 160 = .ok (.iload 6, 2) := by decide +kernel
theorem dX8_weigh_162 : decode cX8_weigh 162 = .ok (.laload, 1) := by decide +kernel
theorem dX8_weigh_163 : decode cX8_weigh 163 = .ok (.goto 5, 3) := by decide +kernel
theorem dX8_weigh_166 : decode cX8_weigh 166 = .ok (.lload 4, 2) := by decide +kernel
theorem dX8_weigh_168 : decode cX8_weigh 168 = .ok (.lstore 4, 2) := by decide +kernel
theorem dX8_weigh_170 : decode cX8_weigh 170 = .ok (.iinc 6 1, 3) := by decide +kernel
theorem dX8_weigh_173 : decode cX8_weigh 173 = .ok (.goto (-71), 3) := by decide +kernel
theorem dX8_weigh_176 : decode cX8_weigh 176 = .ok (.iconst 0, 1) := by decide +kernel
theorem dX8_weigh_177 : decode cX8_weigh 177 = .ok (.istore 6, 2) := by decide +kernel
theorem dX8_weigh_179 : decode cX8_weigh 179 = .ok (.iload 6, 2) := by decide +kernel
theorem dX8_weigh_181 : decode cX8_weigh 181 = .ok (.aload_n 0, 1) := by decide +kernel
theorem dX8_weigh_182 : decode cX8_weigh 182 = .ok (.getfield 106, 3) := by decide +kernel
theorem dX8_weigh_185 : decode cX8_weigh 185 = .ok (.if_icmp .ge 37, 3) := by decide +kernel
theorem dX8_weigh_188 : decode cX8_weigh 188 = .ok (.lload 4, 2) := by decide +kernel
theorem dX8_weigh_190 : decode cX8_weigh 190 = .ok (.lconst 0, 1) := by decide +kernel
theorem dX8_weigh_191 : decode cX8_weigh 191 = .ok (.lcmp, 1) := by decide +kernel
theorem dX8_weigh_192 : decode cX8_weigh 192 = .ok (.ifCond .le 30, 3) := by decide +kernel
theorem dX8_weigh_195 : decode cX8_weigh 195 = .ok (.aload_n 0, 1) := by decide +kernel
theorem dX8_weigh_196 : decode cX8_weigh 196 = .ok (.getfield 93, 3) := by decide +kernel
theorem dX8_weigh_199 : decode cX8_weigh 199 = .ok (.iload 6, 2) := by decide +kernel
theorem dX8_weigh_201 : decode cX8_weigh 201 = .ok (.aload_n 0, 1) := by decide +kernel
theorem dX8_weigh_202 : decode cX8_weigh 202 = .ok (.getfield 93, 3) := by decide +kernel
theorem dX8_weigh_205 : decode cX8_weigh 205 = .ok (.iload 6, 2) := by decide +kernel
theorem dX8_weigh_207 : decode cX8_weigh 207 = .ok (.laload, 1) := by decide +kernel
theorem dX8_weigh_208 : decode cX8_weigh 208 = .ok (.ldc2_w 357, 3) := by decide +kernel
theorem dX8_weigh_211 : decode cX8_weigh 211 = .ok (.lmul, 1) := by decide +kernel
theorem dX8_weigh_212 : decode cX8_weigh 212 = .ok (.lload 4, 2) := by decide +kernel
theorem dX8_weigh_214 : decode cX8_weigh 214 = .ok (.ldiv, 1) := by decide +kernel
theorem dX8_weigh_215 : decode cX8_weigh 215 = .ok (.lastore, 1) := by decide +kernel
theorem dX8_weigh_216 : decode cX8_weigh 216 = .ok (.iinc 6 1, 3) := by decide +kernel
theorem dX8_weigh_219 : decode cX8_weigh 219 = .ok (.goto (-40), 3) := by decide +kernel
theorem dX8_weigh_222 : decode cX8_weigh 222 = .ok (.iinc 3 1, 3) := by decide +kernel
theorem dX8_weigh_225 : decode cX8_weigh 225 = .ok (.goto (-137), 3) := by decide +kernel
theorem dX8_weigh_228 : decode cX8_weigh 228 = .ok (.return_, 1) := by decide +kernel
theorem dX8_think_0 : decode cX8_think 0 = .ok (.aload_n 0, 1) := by decide +kernel
theorem dX8_think_1 : decode cX8_think 1 = .ok (.iload_n 1, 1) := by decide +kernel
theorem dX8_think_2 : decode cX8_think 2 = .ok (.invokevirtual 235, 3) := by decide +kernel
theorem dX8_think_5 : decode cX8_think 5 = .ok (.ifCond .eq 11, 3) := by decide +kernel
theorem dX8_think_8 : decode cX8_think 8 = .ok (.aload_n 0, 1) := by decide +kernel
theorem dX8_think_9 : decode cX8_think 9 = .ok (.iload_n 2, 1) := by decide +kernel
theorem dX8_think_10 : decode cX8_think 10 = .ok (.invokevirtual 113, 3) := by decide +kernel
theorem dX8_think_13 : decode cX8_think 13 = .ok (.ifCond .ne 6, 3) := by decide +kernel
theorem dX8_think_16 : decode cX8_think 16 = .ok (.ldc 197, 2) := by decide +kernel
theorem dX8_think_18 : decode cX8_think 18 = .ok (.ireturn, 1) := by decide +kernel
theorem dX8_think_19 : decode cX8_think 19 = .ok (.iload_n 3, 1) := by decide +kernel
theorem dX8_think_20 : decode cX8_think 20 = .ok (.invokestatic 305, 3) := by decide +kernel
theorem dX8_think_23 : decode cX8_think 23 = .ok (.ifCond .ne 6, 3) := by decide +kernel
theorem dX8_think_26 : decode cX8_think 26 = .ok (.ldc 121, 2) := by decide +kernel
theorem dX8_think_28 : decode cX8_think 28 = .ok (.ireturn, 1) := by decide +kernel
theorem dX8_think_29 : decode cX8_think 29 = .ok (.iconst 0, 1) := by decide +kernel
theorem dX8_think_30 : decode cX8_think 30 = .ok (.istore 4, 2) := by decide +kernel
theorem dX8_think_32 : decode cX8_think 32 = .ok (.iload 4, 2) := by decide +kernel
theorem dX8_think_34 : decode cX8_think 34 = .ok (.aload_n 0, 1) := by decide +kernel
theorem dX8_think_35 : decode cX8_think 35 = .ok (.getfield 354, 3) := by decide +kernel
theorem dX8_think_38 : decode cX8_think 38 = .ok (.if_icmp .ge 28, 3) := by decide +kernel
theorem dX8_think_41 : decode cX8_think 41 = .ok (.aload_n 0, 1) := by decide +kernel
theorem dX8_think_42 : decode cX8_think 42 = .ok (.getfield 87, 3) := by decide +kernel
theorem dX8_think_45 : decode cX8_think 45 = .ok (.iload 4, 2) := by decide +kernel
theorem dX8_think_47 : decode cX8_think 47 = .ok (.iaload, 1) := by decide +kernel
theorem dX8_think_48 : decode cX8_think 48 = .ok (.aload_n 0, 1) := by decide +kernel
theorem dX8_think_49 : decode cX8_think 49 = .ok (.getfield 7, 3) := by decide +kernel
theorem dX8_think_52 : decode cX8_think 52 = .ok (.iload_n 2, 1) := by decide +kernel
theorem dX8_think_53 : decode cX8_think 53 = .ok (.iaload, 1) := by decide +kernel
theorem dX8_think_54 : decode cX8_think 54 = .ok (.if_icmp .lt 6, 3) := by decide +kernel
theorem dX8_think_57 : decode cX8_think 57 = .ok (.ldc 227, 2) := by decide +kernel
theorem dX8_think_59 : decode cX8_think 59 = .ok (.ireturn, 1) := by decide +kernel
theorem dX8_think_60 : decode cX8_think 60 = .ok (.iinc 4 1, 3) := by decide +kernel
theorem dX8_think_63 : decode cX8_think 63 = .ok (.goto (-31), 3) := by decide +kernel
theorem dX8_think_66 : decode cX8_think 66 = .ok (.aload_n 0, 1) := by decide +kernel
theorem dX8_think_67 : decode cX8_think 67 = .ok (.iload_n 2, 1) := by decide +kernel
theorem dX8_think_68 : decode cX8_think 68 = .ok (.iload_n 3, 1) := by decide +kernel
theorem dX8_think_69 : decode cX8_think 69 = .ok (.invokevirtual 359, 3) := by decide +kernel
theorem dX8_think_72 : decode cX8_think 72 = .ok (.lconst 0, 1) := by decide +kernel
theorem dX8_think_73 : decode cX8_think 73 = .ok (.lstore 4, 2) := by decide +kernel
theorem dX8_think_75 : decode cX8_think 75 = .ok (.iconst 0, 1) := by decide +kernel
theorem dX8_think_76 : decode cX8_think 76 = .ok (.istore 6, 2) := by decide +kernel
theorem dX8_think_78 : decode cX8_think 78 = .ok (.iload 6, 2) := by decide +kernel
theorem dX8_think_80 : decode cX8_think 80 = .ok (.aload_n 0, 1) := by decide +kernel
theorem dX8_think_81 : decode cX8_think 81 = .ok (.getfield 106, 3) := by decide +kernel
theorem dX8_think_84 : decode cX8_think 84 = .ok (.if_icmp .ge 21, 3) := by decide +kernel
theorem dX8_think_87 : decode cX8_think 87 = .ok (.lload 4, 2) := by decide +kernel
theorem dX8_think_89 : decode cX8_think 89 = .ok (.aload_n 0, 1) := by decide +kernel
theorem dX8_think_90 : decode cX8_think 90 = .ok (.getfield 93, 3) := by decide +kernel
theorem dX8_think_93 : decode cX8_think 93 = .ok (.iload 6, 2) := by decide +kernel
theorem dX8_think_95 : decode cX8_think 95 = .ok (.laload, 1) := by decide +kernel
theorem dX8_think_96 : decode cX8_think 96 = .ok (.ladd, 1) := by decide +kernel
theorem dX8_think_97 : decode cX8_think 97 = .ok (.lstore 4, 2) := by decide +kernel
theorem dX8_think_99 : decode cX8_think 99 = .ok (.iinc 6 1, 3) := by decide +kernel
theorem dX8_think_102 : decode cX8_think 102 = .ok (.goto (-24), 3) := by decide +kernel
theorem dX8_think_105 : decode cX8_think 105 = .ok (.lload 4, 2) := by decide +kernel
theorem dX8_think_107 : decode cX8_think 107 = .ok (.lconst 0, 1) := by decide +kernel
theorem dX8_think_108 : decode cX8_think 108 = .ok (.lcmp, 1) := by decide +kernel
theorem dX8_think_109 : decode cX8_think 109 = .ok (.ifCond .ne 7, 3) := by decide +kernel
theorem dX8_think_112 : decode cX8_think 112 = .ok (.iconst 0, 1) := by decide +kernel
theorem dX8_think_113 : decode cX8_think 113 = .ok (.goto 17, 3) := by decide +kernel
theorem dX8_think_116 : decode cX8_think 116 = .ok (.ldc2_w 362, 3) := by decide +kernel
theorem dX8_think_119 : decode cX8_think 119 = .ok (.aload_n 0, 1) := by decide +kernel
theorem dX8_think_120 : decode cX8_think 120 = .ok (.getfield 93, 3) := by decide +kernel
theorem dX8_think_123 : decode cX8_think 123 = .ok (.iload_n 1, 1) := by decide +kernel
theorem dX8_think_124 : decode cX8_think 124 = .ok (.laload, 1) := by decide +kernel
theorem dX8_think_125 : decode cX8_think 125 = .ok (.lmul, 1) := by decide +kernel
theorem dX8_think_126 : decode cX8_think 126 = .ok (.lload 4, 2) := by decide +kernel
theorem dX8_think_128 : decode cX8_think 128 = .ok (.ldiv, 1) := by decide +kernel
theorem dX8_think_129 : decode cX8_think 129 = .ok (.l2i, 1) := by decide +kernel
theorem dX8_think_130 : decode cX8_think 130 = .ok (.ireturn, 1) := by decide +kernel
theorem dX8_buy_0 : decode cX8_buy 0 = .ok (.aload_n 0, 1) := by decide +kernel
theorem dX8_buy_1 : decode cX8_buy 1 = .ok (.iload_n 1, 1) := by decide +kernel
theorem dX8_buy_2 : decode cX8_buy 2 = .ok (.invokevirtual 235, 3) := by decide +kernel
theorem dX8_buy_5 : decode cX8_buy 5 = .ok (.ifCond .eq 13, 3) := by decide +kernel
theorem dX8_buy_8 : decode cX8_buy 8 = .ok (.aload_n 0, 1) := by decide +kernel
theorem dX8_buy_9 : decode cX8_buy 9 = .ok (.iload_n 2, 1) := by decide +kernel
theorem dX8_buy_10 : decode cX8_buy 10 = .ok (.iload 5, 2) := by decide +kernel
theorem dX8_buy_12 : decode cX8_buy 12 = .ok (.invokevirtual 209, 3) := by decide +kernel
theorem dX8_buy_15 : decode cX8_buy 15 = .ok (.ifCond .ne 6, 3) := by decide +kernel
theorem dX8_buy_18 : decode cX8_buy 18 = .ok (.ldc 197, 2) := by decide +kernel
theorem dX8_buy_20 : decode cX8_buy 20 = .ok (.ireturn, 1) := by decide +kernel
theorem dX8_buy_21 : decode cX8_buy 21 = .ok (.aload_n 0, 1) := by decide +kernel
theorem dX8_buy_22 : decode cX8_buy 22 = .ok (.iload_n 3, 1) := by decide +kernel
theorem dX8_buy_23 : decode cX8_buy 23 = .ok (.iload 4, 2) := by decide +kernel
theorem dX8_buy_25 : decode cX8_buy 25 = .ok (.invokevirtual 312, 3) := by decide +kernel
theorem dX8_buy_28 : decode cX8_buy 28 = .ok (.ifCond .eq 16, 3) := by decide +kernel
theorem dX8_buy_31 : decode cX8_buy 31 = .ok (.iload 6, 2) := by decide +kernel
theorem dX8_buy_33 : decode cX8_buy 33 = .ok (.i2l, 1) := by decide +kernel
theorem dX8_buy_34 : decode cX8_buy 34 = .ok (.lconst 1, 1) := by decide +kernel
theorem dX8_buy_35 : decode cX8_buy 35 = .ok (.ldc2_w 212, 3) := by decide +kernel
theorem dX8_buy_38 : decode cX8_buy 38 = .ok (.invokestatic 109, 3) := by decide +kernel
theorem dX8_buy_41 : decode cX8_buy 41 = .ok (.ifCond .ne 6, 3) := by decide +kernel
theorem dX8_buy_44 : decode cX8_buy 44 = .ok (.ldc 121, 2) := by decide +kernel
theorem dX8_buy_46 : decode cX8_buy 46 = .ok (.ireturn, 1) := by decide +kernel
theorem dX8_buy_47 : decode cX8_buy 47 = .ok (.aload_n 0, 1) := by decide +kernel
theorem dX8_buy_48 : decode cX8_buy 48 = .ok (.iload_n 1, 1) := by decide +kernel
theorem dX8_buy_49 : decode cX8_buy 49 = .ok (.iload_n 2, 1) := by decide +kernel
theorem dX8_buy_50 : decode cX8_buy 50 = .ok (.iconst (-1), 1) := by decide +kernel
theorem dX8_buy_51 : decode cX8_buy 51 = .ok (.iload_n 3, 1) := by decide +kernel
theorem dX8_buy_52 : decode cX8_buy 52 = .ok (.invokevirtual 308, 3) := by decide +kernel
theorem dX8_buy_55 : decode cX8_buy 55 = .ok (.aload_n 0, 1) := by decide +kernel
theorem dX8_buy_56 : decode cX8_buy 56 = .ok (.getfield 59, 3) := by decide +kernel
theorem dX8_buy_59 : decode cX8_buy 59 = .ok (.bipush 10, 2) := by decide +kernel
theorem dX8_buy_61 : decode cX8_buy 61 = .ok (.iload 4, 2) := by decide +kernel
theorem dX8_buy_63 : decode cX8_buy 63 = .ok (.iconst 1, 1) := by decide +kernel
theorem dX8_buy_64 : decode cX8_buy 64 = .ok (.iadd, 1) := by decide +kernel
theorem dX8_buy_65 : decode cX8_buy 65 = .ok (.imul, 1) := by decide +kernel
theorem dX8_buy_66 : decode cX8_buy 66 = .ok (.aload_n 0, 1) := by decide +kernel
theorem dX8_buy_67 : decode cX8_buy 67 = .ok (.iload_n 2, 1) := by decide +kernel
theorem dX8_buy_68 : decode cX8_buy 68 = .ok (.iload 5, 2) := by decide +kernel
theorem dX8_buy_70 : decode cX8_buy 70 = .ok (.iload 6, 2) := by decide +kernel
theorem dX8_buy_72 : decode cX8_buy 72 = .ok (.invokevirtual 214, 3) := by decide +kernel
theorem dX8_buy_75 : decode cX8_buy 75 = .ok (.iadd, 1) := by decide +kernel
theorem dX8_buy_76 : decode cX8_buy 76 = .ok (.iaload, 1) := by decide +kernel
theorem dX8_buy_77 : decode cX8_buy 77 = .ok (.aload_n 0, 1) := by decide +kernel
theorem dX8_buy_78 : decode cX8_buy 78 = .ok (.getfield 59, 3) := by decide +kernel
theorem dX8_buy_81 : decode cX8_buy 81 = .ok (.bipush 10, 2) := by decide +kernel
theorem dX8_buy_83 : decode cX8_buy 83 = .ok (.iload 4, 2) := by decide +kernel
theorem dX8_buy_85 : decode cX8_buy 85 = .ok (.iconst 1, 1) := by decide +kernel
theorem dX8_buy_86 : decode cX8_buy 86 = .ok (.iadd, 1) := by decide +kernel
theorem dX8_buy_87 : decode cX8_buy 87 = .ok (.imul, 1) := by decide +kernel
theorem dX8_buy_88 : decode cX8_buy 88 = .ok (.aload_n 0, 1) := by decide +kernel
theorem dX8_buy_89 : decode cX8_buy 89 = .ok (.iload_n 2, 1) := by decide +kernel
theorem dX8_buy_90 : decode cX8_buy 90 = .ok (.iload 5, 2) := by decide +kernel
theorem dX8_buy_92 : decode cX8_buy 92 = .ok (.iload 6, 2) := by decide +kernel
theorem dX8_buy_94 : decode cX8_buy 94 = .ok (.iconst 1, 1) := by decide +kernel
theorem dX8_buy_95 : decode cX8_buy 95 = .ok (.isub, 1) := by decide +kernel
theorem dX8_buy_96 : decode cX8_buy 96 = .ok (.invokevirtual 214, 3) := by decide +kernel
theorem dX8_buy_99 : decode cX8_buy 99 = .ok (.iadd, 1) := by decide +kernel
theorem dX8_buy_100 : decode cX8_buy 100 = .ok (.iaload, 1) := by decide +kernel
theorem dX8_buy_101 : decode cX8_buy 101 = .ok (.isub, 1) := by decide +kernel
theorem dX8_buy_102 : decode cX8_buy 102 = .ok (.ireturn, 1) := by decide +kernel
theorem dX8_keepRung_0 : decode cX8_keepRung 0 = .ok (.aload_n 0, 1) := by decide +kernel
theorem dX8_keepRung_1 : decode cX8_keepRung 1 = .ok (.iload_n 1, 1) := by decide +kernel
theorem dX8_keepRung_2 : decode cX8_keepRung 2 = .ok (.invokevirtual 235, 3) := by decide +kernel
theorem dX8_keepRung_5 : decode cX8_keepRung 5 = .ok (.ifCond .eq 13, 3) := by decide +kernel
theorem dX8_keepRung_8 : decode cX8_keepRung 8 = .ok (.aload_n 0, 1) := by decide +kernel
theorem dX8_keepRung_9 : decode cX8_keepRung 9 = .ok (.iload_n 2, 1) := by decide +kernel
theorem dX8_keepRung_10 : decode cX8_keepRung 10 = .ok (.iload 4, 2) := by decide +kernel
theorem dX8_keepRung_12 : decode cX8_keepRung 12 = .ok (.invokevirtual 209, 3) := by decide +kernel
theorem dX8_keepRung_15 : decode cX8_keepRung 15 = .ok (.ifCond .ne 6, 3) := by decide +kernel
theorem dX8_keepRung_18 : decode cX8_keepRung 18 = .ok (.ldc 197, 2) := by decide +kernel
theorem dX8_keepRung_20 : decode cX8_keepRung 20 = .ok (.ireturn, 1) := by decide +kernel
theorem dX8_keepRung_21 : decode cX8_keepRung 21 = .ok (.iload_n 3, 1) := by decide +kernel
theorem dX8_keepRung_22 : decode cX8_keepRung 22 = .ok (.invokestatic 305, 3) := by decide +kernel
theorem dX8_keepRung_25 : decode cX8_keepRung 25 = .ok (.ifCond .ne 6, 3) := by decide +kernel
theorem dX8_keepRung_28 : decode cX8_keepRung 28 = .ok (.ldc 121, 2) := by decide +kernel
theorem dX8_keepRung_30 : decode cX8_keepRung 30 = .ok (.ireturn, 1) := by decide +kernel
theorem dX8_keepRung_31 : decode cX8_keepRung 31 = .ok (.aload_n 0, 1) := by decide +kernel
theorem dX8_keepRung_32 : decode cX8_keepRung 32 = .ok (.iload_n 1, 1) := by decide +kernel
theorem dX8_keepRung_33 : decode cX8_keepRung 33 = .ok (.iload_n 2, 1) := by decide +kernel
theorem dX8_keepRung_34 : decode cX8_keepRung 34 = .ok (.iconst (-1), 1) := by decide +kernel
theorem dX8_keepRung_35 : decode cX8_keepRung 35 = .ok (.iload_n 3, 1) := by decide +kernel
theorem dX8_keepRung_36 : decode cX8_keepRung 36 = .ok (.invokevirtual 308, 3) := by decide +kernel
theorem dX8_keepRung_39 : decode cX8_keepRung 39 = .ok (.aload_n 0, 1) := by decide +kernel
theorem dX8_keepRung_40 : decode cX8_keepRung 40 = .ok (.getfield 59, 3) := by decide +kernel
theorem dX8_keepRung_43 : decode cX8_keepRung 43 = .ok (.iload 4, 2) := by decide +kernel
theorem dX8_keepRung_45 : decode cX8_keepRung 45 = .ok (.iaload, 1) := by decide +kernel
theorem dX8_keepRung_46 : decode cX8_keepRung 46 = .ok (.istore 5, 2) := by decide +kernel
theorem dX8_keepRung_48 : decode cX8_keepRung 48 = .ok (.aload_n 0, 1) := by decide +kernel
theorem dX8_keepRung_49 : decode cX8_keepRung 49 = .ok (.iload_n 2, 1) := by decide +kernel
theorem dX8_keepRung_50 : decode cX8_keepRung 50 = .ok (.iconst 2, 1) := by decide +kernel
theorem dX8_keepRung_51 : decode cX8_keepRung 51 = .ok (.invokevirtual 201, 3) := by decide +kernel
theorem dX8_keepRung_54 : decode cX8_keepRung 54 = .ok (.aload_n 0, 1) := by decide +kernel
theorem dX8_keepRung_55 : decode cX8_keepRung 55 = .ok (.getfield 16, 3) := by decide +kernel
theorem dX8_keepRung_58 : decode cX8_keepRung 58 = .ok (.iconst 2, 1) := by decide +kernel
theorem dX8_keepRung_59 : decode cX8_keepRung 59 = .ok (.dup2, 1) := by decide +kernel
theorem dX8_keepRung_60 : decode cX8_keepRung 60 = .ok (.iaload, 1) := by decide +kernel
theorem dX8_keepRung_61 : decode cX8_keepRung 61 = .ok (.iconst 1, 1) := by decide +kernel
theorem dX8_keepRung_62 : decode cX8_keepRung 62 = .ok (.iload 4, 2) := by decide +kernel
theorem dX8_keepRung_64 : decode cX8_keepRung 64 = .ok (.ishl, 1) := by decide +kernel
theorem dX8_keepRung_65 : decode cX8_keepRung 65 = .ok (.ior, 1) := by decide +kernel
theorem dX8_keepRung_66 : decode cX8_keepRung 66 = .ok (.iastore, 1) := by decide +kernel
theorem dX8_keepRung_67 : decode cX8_keepRung 67 = .ok (.aload_n 0, 1) := by decide +kernel
theorem dX8_keepRung_68 : decode cX8_keepRung 68 = .ok (.iload_n 1, 1) := by decide +kernel
theorem dX8_keepRung_69 : decode cX8_keepRung 69 = .ok (.iconst 2, 1) := by decide +kernel
theorem dX8_keepRung_70 : decode cX8_keepRung 70 = .ok (.iconst (-1), 1) := by decide +kernel
theorem dX8_keepRung_71 : decode cX8_keepRung 71 = .ok (.iload_n 3, 1) := by decide +kernel
theorem dX8_keepRung_72 : decode cX8_keepRung 72 = .ok (.invokevirtual 308, 3) := by decide +kernel
theorem dX8_keepRung_75 : decode cX8_keepRung 75 = .ok (.iload 5, 2) := by decide +kernel
theorem dX8_keepRung_77 : decode cX8_keepRung 77 = .ok (.aload_n 0, 1) := by decide +kernel
theorem dX8_keepRung_78 : decode cX8_keepRung 78 = .ok (.getfield 59, 3) := by decide +kernel
theorem dX8_keepRung_81 : decode cX8_keepRung 81 = .ok (.iload 4, 2) := by decide +kernel
theorem dX8_keepRung_83 : decode cX8_keepRung 83 = .ok (.iaload, 1) := by decide +kernel
theorem dX8_keepRung_84 : decode cX8_keepRung 84 = .ok (.isub, 1) := by decide +kernel
theorem dX8_keepRung_85 : decode cX8_keepRung 85 = .ok (.ireturn, 1) := by decide +kernel
theorem dX8_leave_0 : decode cX8_leave 0 = .ok (.aload_n 0, 1) := by decide +kernel
theorem dX8_leave_1 : decode cX8_leave 1 = .ok (.iload_n 1, 1) := by decide +kernel
theorem dX8_leave_2 : decode cX8_leave 2 = .ok (.invokevirtual 235, 3) := by decide +kernel
theorem dX8_leave_5 : decode cX8_leave 5 = .ok (.ifCond .eq 23, 3) := by decide +kernel
theorem dX8_leave_8 : decode cX8_leave 8 = .ok (.aload_n 0, 1) := by decide +kernel
theorem dX8_leave_9 : decode cX8_leave 9 = .ok (.iload_n 2, 1) := by decide +kernel
theorem dX8_leave_10 : decode cX8_leave 10 = .ok (.iload 4, 2) := by decide +kernel
theorem dX8_leave_12 : decode cX8_leave 12 = .ok (.invokevirtual 209, 3) := by decide +kernel
theorem dX8_leave_15 : decode cX8_leave 15 = .ok (.ifCond .eq 13, 3) := by decide +kernel
theorem dX8_leave_18 : decode cX8_leave 18 = .ok (.aload_n 0, 1) := by decide +kernel
theorem dX8_leave_19 : decode cX8_leave 19 = .ok (.iconst 1, 1) := by decide +kernel
theorem dX8_leave_20 : decode cX8_leave 20 = .ok (.iload_n 2, 1) := by decide +kernel
theorem dX8_leave_21 : decode cX8_leave 21 = .ok (.isub, 1) := by decide +kernel
theorem dX8_leave_22 : decode cX8_leave 22 = .ok (.invokevirtual 113, 3) := by decide +kernel
theorem dX8_leave_25 : decode cX8_leave 25 = .ok (.ifCond .ne 6, 3) := by decide +kernel
theorem dX8_leave_28 : decode cX8_leave 28 = .ok (.ldc 197, 2) := by decide +kernel
theorem dX8_leave_30 : decode cX8_leave 30 = .ok (.ireturn, 1) := by decide +kernel
theorem dX8_leave_31 : decode cX8_leave 31 = .ok (.iload_n 3, 1) := by decide +kernel
theorem dX8_leave_32 : decode cX8_leave 32 = .ok (.invokestatic 305, 3) := by decide +kernel
theorem dX8_leave_35 : decode cX8_leave 35 = .ok (.ifCond .ne 6, 3) := by decide +kernel
theorem dX8_leave_38 : decode cX8_leave 38 = .ok (.ldc 121, 2) := by decide +kernel
theorem dX8_leave_40 : decode cX8_leave 40 = .ok (.ireturn, 1) := by decide +kernel
theorem dX8_leave_41 : decode cX8_leave 41 = .ok (.aload_n 0, 1) := by decide +kernel
theorem dX8_leave_42 : decode cX8_leave 42 = .ok (.iload_n 1, 1) := by decide +kernel
theorem dX8_leave_43 : decode cX8_leave 43 = .ok (.iload_n 2, 1) := by decide +kernel
theorem dX8_leave_44 : decode cX8_leave 44 = .ok (.iconst (-1), 1) := by decide +kernel
theorem dX8_leave_45 : decode cX8_leave 45 = .ok (.iload_n 3, 1) := by decide +kernel
theorem dX8_leave_46 : decode cX8_leave 46 = .ok (.invokevirtual 308, 3) := by decide +kernel
theorem dX8_leave_49 : decode cX8_leave 49 = .ok (.aload_n 0, 1) := by decide +kernel
theorem dX8_leave_50 : decode cX8_leave 50 = .ok (.getfield 59, 3) := by decide +kernel
theorem dX8_leave_53 : decode cX8_leave 53 = .ok (.iload 4, 2) := by decide +kernel
theorem dX8_leave_55 : decode cX8_leave 55 = .ok (.iaload, 1) := by decide +kernel
theorem dX8_leave_56 : decode cX8_leave 56 = .ok (.istore 5, 2) := by decide +kernel
theorem dX8_leave_58 : decode cX8_leave 58 = .ok (.aload_n 0, 1) := by decide +kernel
theorem dX8_leave_59 : decode cX8_leave 59 = .ok (.iload_n 1, 1) := by decide +kernel
theorem dX8_leave_60 : decode cX8_leave 60 = .ok (.iconst 1, 1) := by decide +kernel
theorem dX8_leave_61 : decode cX8_leave 61 = .ok (.iload_n 2, 1) := by decide +kernel
theorem dX8_leave_62 : decode cX8_leave 62 = .ok (.isub, 1) := by decide +kernel
theorem dX8_leave_63 : decode cX8_leave 63 = .ok (.iconst (-1), 1) := by decide +kernel
theorem dX8_leave_64 : decode cX8_leave 64 = .ok (.iload_n 3, 1) := by decide +kernel
theorem dX8_leave_65 : decode cX8_leave 65 = .ok (.invokevirtual 308, 3) := by decide +kernel
theorem dX8_leave_68 : decode cX8_leave 68 = .ok (.aload_n 0, 1) := by decide +kernel
theorem dX8_leave_69 : decode cX8_leave 69 = .ok (.getfield 59, 3) := by decide +kernel
theorem dX8_leave_72 : decode cX8_leave 72 = .ok (.iload 4, 2) := by decide +kernel
theorem dX8_leave_74 : decode cX8_leave 74 = .ok (.aload_n 0, 1) := by decide +kernel
theorem dX8_leave_75 : decode cX8_leave 75 = .ok (.getfield 28, 3) := by decide +kernel
theorem dX8_leave_78 : decode cX8_leave 78 = .ok (.iconst 1, 1) := by decide +kernel
theorem dX8_leave_79 : decode cX8_leave 79 = .ok (.iload_n 2, 1) := by decide +kernel
theorem dX8_leave_80 : decode cX8_leave 80 = .ok (.isub, 1) := by decide +kernel
theorem dX8_leave_81 : decode cX8_leave 81 = .ok (.iaload, 1) := by decide +kernel
theorem dX8_leave_82 : decode cX8_leave 82 = .ok (.if_icmp .ge 8, 3) := by decide +kernel
theorem dX8_leave_85 : decode cX8_leave 85 = .ok (.iload 4, 2) := by decide +kernel
theorem dX8_leave_87 : decode cX8_leave 87 = .ok (.goto 11, 3) := by decide +kernel
theorem dX8_leave_90 : decode cX8_leave 90 = .ok (.aload_n 0, 1) := by decide +kernel
theorem dX8_leave_91 : decode cX8_leave 91 = .ok (.getfield 28, 3) := by decide +kernel
theorem dX8_leave_94 : decode cX8_leave 94 = .ok (.iconst 1, 1) := by decide +kernel
theorem dX8_leave_95 : decode cX8_leave 95 = .ok (.iload_n 2, 1) := by decide +kernel
theorem dX8_leave_96 : decode cX8_leave 96 = .ok (.isub, 1) := by decide +kernel
theorem dX8_leave_97 : decode cX8_leave 97 = .ok (.iaload, 1) := by decide +kernel
theorem dX8_leave_98 : decode cX8_leave 98 = .ok (.iaload, 1) := by decide +kernel
theorem dX8_leave_99 : decode cX8_leave 99 = .ok (.iload 5, 2) := by decide +kernel
theorem dX8_leave_101 : decode cX8_leave 101 = .ok (.if_icmp .ge 7, 3) := by decide +kernel
theorem dX8_leave_104 : decode cX8_leave 104 = .ok (.iconst 1, 1) := by decide +kernel
theorem dX8_leave_105 : decode cX8_leave 105 = .ok (.goto 4, 3) := by decide +kernel
theorem dX8_leave_108 : decode cX8_leave 108 = .ok (.iconst 0, 1) := by decide +kernel
theorem dX8_leave_109 : decode cX8_leave 109 = .ok (.ireturn, 1) := by decide +kernel
theorem dX8_pad_0 : decode cX8_pad 0 = .ok (.aload_n 0, 1) := by decide +kernel
theorem dX8_pad_1 : decode cX8_pad 1 = .ok (.iload_n 1, 1) := by decide +kernel
theorem dX8_pad_2 : decode cX8_pad 2 = .ok (.invokevirtual 235, 3) := by decide +kernel
theorem dX8_pad_5 : decode cX8_pad 5 = .ok (.ifCond .eq 13, 3) := by decide +kernel
theorem dX8_pad_8 : decode cX8_pad 8 = .ok (.aload_n 0, 1) := by decide +kernel
theorem dX8_pad_9 : decode cX8_pad 9 = .ok (.iload_n 2, 1) := by decide +kernel
theorem dX8_pad_10 : decode cX8_pad 10 = .ok (.iload 4, 2) := by decide +kernel
theorem dX8_pad_12 : decode cX8_pad 12 = .ok (.invokevirtual 209, 3) := by decide +kernel
theorem dX8_pad_15 : decode cX8_pad 15 = .ok (.ifCond .ne 6, 3) := by decide +kernel
theorem dX8_pad_18 : decode cX8_pad 18 = .ok (.ldc 197, 2) := by decide +kernel
theorem dX8_pad_20 : decode cX8_pad 20 = .ok (.ireturn, 1) := by decide +kernel
theorem dX8_pad_21 : decode cX8_pad 21 = .ok (.iload_n 3, 1) := by decide +kernel
theorem dX8_pad_22 : decode cX8_pad 22 = .ok (.invokestatic 305, 3) := by decide +kernel
theorem dX8_pad_25 : decode cX8_pad 25 = .ok (.ifCond .eq 68, 3) := by decide +kernel
theorem dX8_pad_28 : decode cX8_pad 28 = .ok (.iload 5, 2) := by decide +kernel
theorem dX8_pad_30 : decode cX8_pad 30 = .ok (.i2l, 1) := by decide +kernel
theorem dX8_pad_31 : decode cX8_pad 31 = .ok (.lconst 0, 1) := by decide +kernel
theorem dX8_pad_32 : decode cX8_pad 32 = .ok (.ldc2_w 321, 3) := by decide +kernel
theorem dX8_pad_35 : decode cX8_pad 35 = .ok (.invokestatic 109, 3) := by decide +kernel
theorem dX8_pad_38 : decode cX8_pad 38 = .ok (.ifCond .eq 55, 3) := by decide +kernel
theorem dX8_pad_41 : decode cX8_pad 41 = .ok (.iload 6, 2) := by decide +kernel
theorem dX8_pad_43 : decode cX8_pad 43 = .ok (.i2l, 1) := by decide +kernel
theorem dX8_pad_44 : decode cX8_pad 44 = .ok (.lconst 0, 1) := by decide +kernel
theorem dX8_pad_45 : decode cX8_pad 45 = .ok (.ldc2_w 212, 3) := by decide +kernel
theorem dX8_pad_48 : decode cX8_pad 48 = .ok (.invokestatic 109, 3) := by decide +kernel
theorem dX8_pad_51 : decode cX8_pad 51 = .ok (.ifCond .eq 42, 3) := by decide +kernel
theorem dX8_pad_54 : decode cX8_pad 54 = .ok (.iload 7, 2) := by decide +kernel
theorem dX8_pad_56 : decode cX8_pad 56 = .ok (.i2l, 1) := by decide +kernel
theorem dX8_pad_57 : decode cX8_pad 57 = .ok (.lconst 1, 1) := by decide +kernel
theorem dX8_pad_58 : decode cX8_pad 58 = .ok (.ldc2_w 326, 3) := by decide +kernel
theorem dX8_pad_61 : decode cX8_pad 61 = .ok (.invokestatic 109, 3) := by decide +kernel
theorem dX8_pad_64 : decode cX8_pad 64 = .ok (.ifCond .eq 29, 3) := by decide +kernel
theorem dX8_pad_67 : decode cX8_pad 67 = .ok (.iload 8, 2) := by decide +kernel
theorem dX8_pad_69 : decode cX8_pad 69 = .ok (.i2l, 1) := by decide +kernel
theorem dX8_pad_70 : decode cX8_pad 70 = .ok (.lconst 0, 1) := by decide +kernel
theorem dX8_pad_71 : decode cX8_pad 71 = .ok (.ldc2_w 326, 3) := by decide +kernel
theorem dX8_pad_74 : decode cX8_pad 74 = .ok (.invokestatic 109, 3) := by decide +kernel
theorem dX8_pad_77 : decode cX8_pad 77 = .ok (.ifCond .eq 16, 3) := by decide +kernel
theorem dX8_pad_80 : decode cX8_pad 80 = .ok (.iload 9, 2) := by decide +kernel
theorem dX8_pad_82 : decode cX8_pad 82 = .ok (.i2l, 1) := by decide +kernel
theorem dX8_pad_83 : decode cX8_pad 83 = .ok (.lconst 0, 1) := by decide +kernel
theorem dX8_pad_84 : decode cX8_pad 84 = .ok (.ldc2_w 362, 3) := by decide +kernel
theorem dX8_pad_87 : decode cX8_pad 87 = .ok (.invokestatic 109, 3) := by decide +kernel
theorem dX8_pad_90 : decode cX8_pad 90 = .ok (.ifCond .ne 6, 3) := by decide +kernel
theorem dX8_pad_93 : decode cX8_pad 93 = .ok (.ldc 121, 2) := by decide +kernel
theorem dX8_pad_95 : decode cX8_pad 95 = .ok (.ireturn, 1) := by decide +kernel
theorem dX8_pad_96 : decode cX8_pad 96 = .ok (.aload_n 0, 1) := by decide +kernel
theorem dX8_pad_97 : decode cX8_pad 97 = .ok (.iload_n 1, 1) := by decide +kernel
theorem dX8_pad_98 : decode cX8_pad 98 = .ok (.iload_n 2, 1) := by decide +kernel
theorem dX8_pad_99 : decode cX8_pad 99 = .ok (.iconst (-1), 1) := by decide +kernel
theorem dX8_pad_100 : decode cX8_pad 100 = .ok (.iload_n 3, 1) := by decide +kernel
theorem dX8_pad_101 : decode cX8_pad 101 = .ok (.invokevirtual 308, 3) := by decide +kernel
theorem dX8_pad_104 : decode cX8_pad 104 = .ok (.ldc2_w 276, 3) := by decide +kernel
theorem dX8_pad_107 : decode cX8_pad 107 = .ok (.aload_n 0, 1) := by decide +kernel
theorem dX8_pad_108 : decode cX8_pad 108 = .ok (.iload 7, 2) := by decide +kernel
theorem dX8_pad_110 : decode cX8_pad 110 = .ok (.invokevirtual 265, 3) := by decide +kernel
theorem dX8_pad_113 : decode cX8_pad 113 = .ok (.i2l, 1) := by decide +kernel
theorem dX8_pad_114 : decode cX8_pad 114 = .ok (.lmul, 1) := by decide +kernel
theorem dX8_pad_115 : decode cX8_pad 115 = .ok (.aload_n 0, 1) := by decide +kernel
theorem dX8_pad_116 : decode cX8_pad 116 = .ok (.getfield 62, 3) := by decide +kernel
theorem dX8_pad_119 : decode cX8_pad 119 = .ok (.iconst 0, 1) := by decide +kernel
theorem dX8_pad_120 : decode cX8_pad 120 = .ok (.iconst 0, 1) := by decide +kernel
theorem dX8_pad_121 : decode cX8_pad 121 = .ok (.iload 4, 2) := by decide +kernel
theorem dX8_pad_123 : decode cX8_pad 123 = .ok (.iload 5, 2) := by decide +kernel
theorem dX8_pad_125 : decode cX8_pad 125 = .ok (.iconst 1, 1) := by decide +kernel
theorem dX8_pad_126 : decode cX8_pad 126 = .ok (.iadd, 1) := by decide +kernel
theorem dX8_pad_127 : decode cX8_pad 127 = .ok (.aload_n 0, 1) := by decide +kernel
theorem dX8_pad_128 : decode cX8_pad 128 = .ok (.iload 6, 2) := by decide +kernel
theorem dX8_pad_130 : decode cX8_pad 130 = .ok (.invokevirtual 269, 3) := by decide +kernel
theorem dX8_pad_133 : decode cX8_pad 133 = .ok (.invokestatic 272, 3) := by decide +kernel
theorem dX8_pad_136 : decode cX8_pad 136 = .ok (.iaload, 1) := by decide +kernel
theorem dX8_pad_137 : decode cX8_pad 137 = .ok (.i2l, 1) := by decide +kernel
theorem dX8_pad_138 : decode cX8_pad 138 = .ok (.ladd, 1) := by decide +kernel
theorem dX8_pad_139 : decode cX8_pad 139 = .ok (.lstore 10, 2) := by decide +kernel
theorem dX8_pad_141 : decode cX8_pad 141 = .ok (.ldc2_w 276, 3) := by decide +kernel
theorem dX8_pad_144 : decode cX8_pad 144 = .ok (.iload 7, 2) := by decide +kernel
theorem dX8_pad_146 : decode cX8_pad 146 = .ok (.i2l, 1) := by decide +kernel
theorem dX8_pad_147 : decode cX8_pad 147 = .ok (.lmul, 1) := by decide +kernel
theorem dX8_pad_148 : decode cX8_pad 148 = .ok (.aload_n 0, 1) := by decide +kernel
theorem dX8_pad_149 : decode cX8_pad 149 = .ok (.getfield 62, 3) := by decide +kernel
theorem dX8_pad_152 : decode cX8_pad 152 = .ok (.iconst 0, 1) := by decide +kernel
theorem dX8_pad_153 : decode cX8_pad 153 = .ok (.iconst 0, 1) := by decide +kernel
theorem dX8_pad_154 : decode cX8_pad 154 = .ok (.iload 4, 2) := by decide +kernel
theorem dX8_pad_156 : decode cX8_pad 156 = .ok (.iload 5, 2) := by decide +kernel
theorem dX8_pad_158 : decode cX8_pad 158 = .ok (.iconst 1, 1) := by decide +kernel
theorem dX8_pad_159 : decode cX8_pad 159 = .ok (.iadd, 1) := by decide +kernel
theorem dX8_pad_160 : decode cX8_pad 160 = .ok (.iconst 3, 1) := by decide +kernel
theorem dX8_pad_161 : decode cX8_pad 161 = .ok (.invokestatic 272, 3) := by decide +kernel
theorem dX8_pad_164 : decode cX8_pad 164 = .ok (.iaload, 1) := by decide +kernel
theorem dX8_pad_165 : decode cX8_pad 165 = .ok (.i2l, 1) := by decide +kernel
theorem dX8_pad_166 : decode cX8_pad 166 = .ok (.ladd, 1) := by decide +kernel
theorem dX8_pad_167 : decode cX8_pad 167 = .ok (.lstore 12, 2) := by decide +kernel
theorem dX8_pad_169 : decode cX8_pad 169 = .ok (.ldc2_w 362, 3) := by decide +kernel
theorem dX8_pad_172 : decode cX8_pad 172 = .ok (.iload 9, 2) := by decide +kernel
theorem dX8_pad_174 : decode cX8_pad 174 = .ok (.i2l, 1) := by decide +kernel
theorem dX8_pad_175 : decode cX8_pad 175 = .ok (.lsub, 1) := by decide +kernel
theorem dX8_pad_176 : decode cX8_pad 176 = .ok (.ldc2_w 276, 3) := by decide +kernel
theorem dX8_pad_179 : decode cX8_pad 179 = .ok (.iload 8, 2) := by decide +kernel
theorem dX8_pad_181 : decode cX8_pad 181 = .ok (.i2l, 1) := by decide +kernel
theorem dX8_pad_182 : decode cX8_pad 182 = .ok (.lmul, 1) := by decide +kernel
theorem dX8_pad_183 : decode cX8_pad 183 = .ok (.lmul, 1) := by decide +kernel
theorem dX8_pad_184 : decode cX8_pad 184 = .ok (.iload 9, 2) := by decide +kernel
theorem dX8_pad_186 : decode cX8_pad 186 = .ok (.i2l, 1) := by decide +kernel
theorem dX8_pad_187 : decode cX8_pad 187 = .ok (.lload 12, 2) := by decide +kernel
theorem dX8_pad_189 : decode cX8_pad 189 = .ok (.lload 10, 2) := by decide +kernel
theorem dX8_pad_191 : decode cX8_pad 191 = .ok (.lsub, 1) := by decide +kernel
theorem dX8_pad_192 : decode cX8_pad 192 = .ok (.lmul, 1) := by decide +kernel
theorem dX8_pad_193 : decode cX8_pad 193 = .ok (.lsub, 1) := by decide +kernel
theorem dX8_pad_194 : decode cX8_pad 194 = .ok (.ldc2_w 362, 3) := by decide +kernel
theorem dX8_pad_197 : decode cX8_pad 197 = .ok (.ldiv, 1) := by decide +kernel
theorem dX8_pad_198 : decode cX8_pad 198 = .ok (.l2i, 1) := by decide +kernel
theorem dX8_pad_199 : decode cX8_pad 199 = .ok (.ireturn, 1) := by decide +kernel
theorem dX8_isEven_0 : decode cX8_isEven 0 = .ok (.aload_n 0, 1) := by decide +kernel
theorem dX8_isEven_1 : decode cX8_isEven 1 = .ok (.iload_n 1, 1) := by decide +kernel
theorem dX8_isEven_2 : decode cX8_isEven 2 = .ok (.iconst 2, 1) := by decide +kernel
theorem dX8_isEven_3 : decode cX8_isEven 3 = .ok (.iconst (-1), 1) := by decide +kernel
theorem dX8_isEven_4 : decode cX8_isEven 4 = .ok (.iload_n 2, 1) := by decide +kernel
theorem dX8_isEven_5 : decode cX8_isEven 5 = .ok (.invokevirtual 308, 3) := by decide +kernel
theorem dX8_isEven_8 : decode cX8_isEven 8 = .ok (.aload_n 0, 1) := by decide +kernel
theorem dX8_isEven_9 : decode cX8_isEven 9 = .ok (.bipush 10, 2) := by decide +kernel
theorem dX8_isEven_11 : decode cX8_isEven 11 = .ok (.iconst 2, 1) := by decide +kernel
theorem dX8_isEven_12 : decode cX8_isEven 12 = .ok (.invokevirtual 349, 3) := by decide +kernel
theorem dX8_isEven_15 : decode cX8_isEven 15 = .ok (.iload_n 3, 1) := by decide +kernel
theorem dX8_isEven_16 : decode cX8_isEven 16 = .ok (.if_icmp .lt 7, 3) := by decide +kernel
theorem dX8_isEven_19 : decode cX8_isEven 19 = .ok (.iconst 1, 1) := by decide +kernel
theorem dX8_isEven_20 : decode cX8_isEven 20 = .ok (.goto 4, 3) := by decide +kernel
theorem dX8_isEven_23 : decode cX8_isEven 23 = .ok (.iconst 0, 1) := by decide +kernel
theorem dX8_isEven_24 : decode cX8_isEven 24 = .ok (.ireturn, 1) := by decide +kernel
theorem dX8_pained_0 : decode cX8_pained 0 = .ok (.iconst 0, 1) := by decide +kernel
theorem dX8_pained_1 : decode cX8_pained 1 = .ok (.istore_n 2, 1) := by decide +kernel
theorem dX8_pained_2 : decode cX8_pained 2 = .ok (.iconst 0, 1) := by decide +kernel
theorem dX8_pained_3 : decode cX8_pained 3 = .ok (.istore_n 3, 1) := by decide +kernel
theorem dX8_pained_4 : decode cX8_pained 4 = .ok (.iload_n 3, 1) := by decide +kernel
theorem dX8_pained_5 : decode cX8_pained 5 = .ok (.aload_n 0, 1) := by decide +kernel
theorem dX8_pained_6 : decode cX8_pained 6 = .ok (.getfield 7, 3) := by decide +kernel
theorem dX8_pained_9 : decode cX8_pained 9 = .ok (.iconst 2, 1) := by decide +kernel
theorem dX8_pained_10 : decode cX8_pained 10 = .ok (.iaload, 1) := by decide +kernel
theorem dX8_pained_11 : decode cX8_pained 11 = .ok (.if_icmp .ge 26, 3) := by decide +kernel
theorem dX8_pained_14 : decode cX8_pained 14 = .ok (.iload_n 2, 1) := by decide +kernel
theorem dX8_pained_15 : decode cX8_pained 15 = .ok (.aload_n 0, 1) := by decide +kernel
theorem dX8_pained_16 : decode cX8_pained 16 = .ok (.iconst 0, 1) := by decide +kernel
theorem dX8_pained_17 : decode cX8_pained 17 = .ok (.iload_n 3, 1) := by decide +kernel
theorem dX8_pained_18 : decode cX8_pained 18 = .ok (.invokevirtual 302, 3) := by decide +kernel
theorem dX8_pained_21 : decode cX8_pained 21 = .ok (.ifCond .eq 7, 3) := by decide +kernel
theorem dX8_pained_24 : decode cX8_pained 24 = .ok (.iconst 1, 1) := by decide +kernel
theorem dX8_pained_25 : decode cX8_pained 25 = .ok (.goto 4, 3) := by decide +kernel
theorem dX8_pained_28 : decode cX8_pained 28 = .ok (.iconst 0, 1) := by decide +kernel
theorem dX8_pained_29 : decode cX8_pained 29 = .ok (.iadd, 1) := by decide +kernel
theorem dX8_pained_30 : decode cX8_pained 30 = .ok (.istore_n 2, 1) := by decide +kernel
theorem dX8_pained_31 : decode cX8_pained 31 = .ok (.iinc 3 1, 3) := by decide +kernel
theorem dX8_pained_34 : decode cX8_pained 34 = .ok (.goto (-30), 3) := by decide +kernel
theorem dX8_pained_37 : decode cX8_pained 37 = .ok (.iload_n 1, 1) := by decide +kernel
theorem dX8_pained_38 : decode cX8_pained 38 = .ok (.ifCond .ge 7, 3) := by decide +kernel
theorem dX8_pained_41 : decode cX8_pained 41 = .ok (.iconst 0, 1) := by decide +kernel
theorem dX8_pained_42 : decode cX8_pained 42 = .ok (.goto 4, 3) := by decide +kernel
theorem dX8_pained_45 : decode cX8_pained 45 = .ok (.iload_n 2, 1) := by decide +kernel
theorem dX8_pained_46 : decode cX8_pained 46 = .ok (.ireturn, 1) := by decide +kernel
theorem dX8_setting_0 : decode cX8_setting 0 = .ok (.aload_n 0, 1) := by decide +kernel
theorem dX8_setting_1 : decode cX8_setting 1 = .ok (.iload_n 1, 1) := by decide +kernel
theorem dX8_setting_2 : decode cX8_setting 2 = .ok (.invokevirtual 113, 3) := by decide +kernel
theorem dX8_setting_5 : decode cX8_setting 5 = .ok (.ifCond .ne 6, 3) := by decide +kernel
theorem dX8_setting_8 : decode cX8_setting 8 = .ok (.ldc 197, 2) := by decide +kernel
theorem dX8_setting_10 : decode cX8_setting 10 = .ok (.ireturn, 1) := by decide +kernel
theorem dX8_setting_11 : decode cX8_setting 11 = .ok (.iload_n 2, 1) := by decide +kernel
theorem dX8_setting_12 : decode cX8_setting 12 = .ok (.i2l, 1) := by decide +kernel
theorem dX8_setting_13 : decode cX8_setting 13 = .ok (.lconst 1, 1) := by decide +kernel
theorem dX8_setting_14 : decode cX8_setting 14 = .ok (.ldc2_w 315, 3) := by decide +kernel
theorem dX8_setting_17 : decode cX8_setting 17 = .ok (.invokestatic 109, 3) := by decide +kernel
theorem dX8_setting_20 : decode cX8_setting 20 = .ok (.ifCond .eq 17, 3) := by decide +kernel
theorem dX8_setting_23 : decode cX8_setting 23 = .ok (.iload_n 3, 1) := by decide +kernel
theorem dX8_setting_24 : decode cX8_setting 24 = .ok (.i2l, 1) := by decide +kernel
theorem dX8_setting_25 : decode cX8_setting 25 = .ok (.ldc2_w 364, 3) := by decide +kernel
theorem dX8_setting_28 : decode cX8_setting 28 = .ok (.ldc2_w 366, 3) := by decide +kernel
theorem dX8_setting_31 : decode cX8_setting 31 = .ok (.invokestatic 109, 3) := by decide +kernel
theorem dX8_setting_34 : decode cX8_setting 34 = .ok (.ifCond .ne 6, 3) := by decide +kernel
theorem dX8_setting_37 : decode cX8_setting 37 = .ok (.ldc 121, 2) := by decide +kernel
theorem dX8_setting_39 : decode cX8_setting 39 = .ok (.ireturn, 1) := by decide +kernel
theorem dX8_setting_40 : decode cX8_setting 40 = .ok (.aload_n 0, 1) := by decide +kernel
theorem dX8_setting_41 : decode cX8_setting 41 = .ok (.iload_n 1, 1) := by decide +kernel
theorem dX8_setting_42 : decode cX8_setting 42 = .ok (.iconst 2, 1) := by decide +kernel
theorem dX8_setting_43 : decode cX8_setting 43 = .ok (.invokevirtual 201, 3) := by decide +kernel
theorem dX8_setting_46 : decode cX8_setting 46 = .ok (.iconst (-1), 1) := by decide +kernel
theorem dX8_setting_47 : decode cX8_setting 47 = .ok (.istore 4, 2) := by decide +kernel
theorem dX8_setting_49 : decode cX8_setting 49 = .ok (.iconst 0, 1) := by decide +kernel
theorem dX8_setting_50 : decode cX8_setting 50 = .ok (.istore 5, 2) := by decide +kernel
theorem dX8_setting_52 : decode cX8_setting 52 = .ok (.iconst 0, 1) := by decide +kernel
theorem dX8_setting_53 : decode cX8_setting 53 = .ok (.istore 6, 2) := by decide +kernel
theorem dX8_setting_55 : decode cX8_setting 55 = .ok (.iload 6, 2) := by decide +kernel
theorem dX8_setting_57 : decode cX8_setting 57 = .ok (.bipush 36, 2) := by decide +kernel
theorem dX8_setting_59 : decode cX8_setting 59 = .ok (.if_icmp .ge 146, 3) := by decide +kernel
theorem dX8_setting_62 : decode cX8_setting 62 = .ok (.aload_n 0, 1) := by decide +kernel
theorem dX8_setting_63 : decode cX8_setting 63 = .ok (.getfield 22, 3) := by decide +kernel
theorem dX8_setting_66 : decode cX8_setting 66 = .ok (.iconst 2, 1) := by decide +kernel
theorem dX8_setting_67 : decode cX8_setting 67 = .ok (.iconst 1, 1) := by decide +kernel
theorem dX8_setting_68 : decode cX8_setting 68 = .ok (.iload 6, 2) := by decide +kernel
theorem dX8_setting_70 : decode cX8_setting 70 = .ok (.bipush 12, 2) := by decide +kernel
theorem dX8_setting_72 : decode cX8_setting 72 = .ok (.idiv, 1) := by decide +kernel
theorem dX8_setting_73 : decode cX8_setting 73 = .ok (.iadd, 1) := by decide +kernel
theorem dX8_setting_74 : decode cX8_setting 74 = .ok (.iastore, 1) := by decide +kernel
theorem dX8_setting_75 : decode cX8_setting 75 = .ok (.aload_n 0, 1) := by decide +kernel
theorem dX8_setting_76 : decode cX8_setting 76 = .ok (.getfield 19, 3) := by decide +kernel
theorem dX8_setting_79 : decode cX8_setting 79 = .ok (.iconst 2, 1) := by decide +kernel
theorem dX8_setting_80 : decode cX8_setting 80 = .ok (.iconst 1, 1) := by decide +kernel
theorem dX8_setting_81 : decode cX8_setting 81 = .ok (.iload 6, 2) := by decide +kernel
theorem dX8_setting_83 : decode cX8_setting 83 = .ok (.iconst 3, 1) := by decide +kernel
theorem dX8_setting_84 : decode cX8_setting 84 = .ok (.idiv, 1) := by decide +kernel
theorem dX8_setting_85 : decode cX8_setting 85 = .ok (.iconst 4, 1) := by decide +kernel
theorem dX8_setting_86 : decode cX8_setting 86 = .ok (.irem, 1) := by decide +kernel
theorem dX8_setting_87 : decode cX8_setting 87 = .ok (.iadd, 1) := by decide +kernel
theorem dX8_setting_88 : decode cX8_setting 88 = .ok (.iastore, 1) := by decide +kernel
theorem dX8_setting_89 : decode cX8_setting 89 = .ok (.aload_n 0, 1) := by decide +kernel
theorem dX8_setting_90 : decode cX8_setting 90 = .ok (.getfield 25, 3) := by decide +kernel
theorem dX8_setting_93 : decode cX8_setting 93 = .ok (.iconst 2, 1) := by decide +kernel
theorem dX8_setting_94 : decode cX8_setting 94 = .ok (.bipush 10, 2) := by decide +kernel
theorem dX8_setting_96 : decode cX8_setting 96 = .ok (.iload 6, 2) := by decide +kernel
theorem dX8_setting_98 : decode cX8_setting 98 = .ok (.iconst 3, 1) := by decide +kernel
theorem dX8_setting_99 : decode cX8_setting 99 = .ok (.irem, 1) := by decide +kernel
theorem dX8_setting_100 : decode cX8_setting 100 = .ok (.imul, 1) := by decide +kernel
theorem dX8_setting_101 : decode cX8_setting 101 = .ok (.iastore, 1) := by decide +kernel
theorem dX8_setting_102 : decode cX8_setting 102 = .ok (.iconst 1, 1) := by decide +kernel
theorem dX8_setting_103 : decode cX8_setting 103 = .ok (.istore 7, 2) := by decide +kernel
theorem dX8_setting_105 : decode cX8_setting 105 = .ok (.iconst 0, 1) := by decide +kernel
theorem dX8_setting_106 : decode cX8_setting 106 = .ok (.istore 8, 2) := by decide +kernel
theorem dX8_setting_108 : decode cX8_setting 108 = .ok (.iconst 0, 1) := by decide +kernel
theorem dX8_setting_109 : decode cX8_setting 109 = .ok (.istore 9, 2) := by decide +kernel
theorem dX8_setting_111 : decode cX8_setting 111 = .ok (.iload 9, 2) := by decide +kernel
theorem dX8_setting_113 : decode cX8_setting 113 = .ok (.aload_n 0, 1) := by decide +kernel
theorem dX8_setting_114 : decode cX8_setting 114 = .ok (.getfield 106, 3) := by decide +kernel
theorem dX8_setting_117 : decode cX8_setting 117 = .ok (.if_icmp .ge 35, 3) := by decide +kernel
theorem dX8_setting_120 : decode cX8_setting 120 = .ok (.iload 7, 2) := by decide +kernel
theorem dX8_setting_122 : decode cX8_setting 122 = .ok (.ifCond .eq 30, 3) := by decide +kernel
theorem dX8_setting_125 : decode cX8_setting 125 = .ok (.aload_n 0, 1) := by decide +kernel
theorem dX8_setting_126 : decode cX8_setting 126 = .ok (.iload 9, 2) := by decide +kernel
theorem dX8_setting_128 : decode cX8_setting 128 = .ok (.iload_n 2, 1) := by decide +kernel
theorem dX8_setting_129 : decode cX8_setting 129 = .ok (.iload_n 3, 1) := by decide +kernel
theorem dX8_setting_130 : decode cX8_setting 130 = .ok (.invokevirtual 368, 3) := by decide +kernel
theorem dX8_setting_133 : decode cX8_setting 133 = .ok (.istore 7, 2) := by decide +kernel
theorem dX8_setting_135 : decode cX8_setting 135 = .ok (.iload 8, 2) := by decide +kernel
theorem dX8_setting_137 : decode cX8_setting 137 = .ok (.aload_n 0, 1) := by decide +kernel
theorem dX8_setting_138 : decode cX8_setting 138 = .ok (.iload 9, 2) := by decide +kernel
theorem dX8_setting_140 : decode cX8_setting 140 = .ok (.invokevirtual 372, 3) := by decide +kernel
theorem dX8_setting_143 : decode cX8_setting 143 = .ok (.iadd, 1) := by decide +kernel
theorem dX8_setting_144 : decode cX8_setting 144 = .ok (.istore 8, 2) := by decide +kernel
theorem dX8_setting_146 : decode cX8_setting 146 = .ok (.iinc 9 1, 3) := by decide +kernel
theorem dX8_setting_149 : decode cX8_setting 149 = .ok (.goto (-38), 3) := by decide +kernel
theorem dX8_setting_152 : decode cX8_setting 152 = .ok (.iload 7, 2) := by decide +kernel
theorem dX8_setting_154 : decode cX8_setting 154 = .ok (.ifCond .eq 45, 3) := by decide +kernel
theorem dX8_setting_157 : decode cX8_setting 157 = .ok (.iload 4, 2) := by decide +kernel
theorem dX8_setting_159 : decode cX8_setting 159 = .ok (.ifCond .lt 10, 3) := by decide +kernel
theorem dX8_setting_162 : decode cX8_setting 162 = .ok (.iload 8, 2) := by decide +kernel
theorem dX8_setting_164 : decode cX8_setting 164 = .ok (.iload 5, 2) := by decide +kernel
theorem dX8_setting_166 : decode cX8_setting 166 = .ok (.if_icmp .le 33, 3) := by decide +kernel
theorem dX8_setting_169 : decode cX8_setting 169 = .ok (.bipush 100, 2) := by decide +kernel
theorem dX8_setting_171 : decode cX8_setting 171 = .ok (.aload_n 0, 1) := by decide +kernel
theorem dX8_setting_172 : decode cX8_setting 172 = .ok (.getfield 22, 3) := by decide +kernel
theorem dX8_setting_175 : decode cX8_setting 175 = .ok (.iconst 2, 1) := by decide +kernel
theorem dX8_setting_176 : decode cX8_setting 176 = .ok (.iaload, 1) := by decide +kernel
theorem dX8_setting_177 : decode cX8_setting 177 = .ok (.imul, 1) := by decide +kernel
theorem dX8_setting_178 : decode cX8_setting 178 = .ok (.bipush 10, 2) := by decide +kernel
theorem dX8_setting_180 : decode cX8_setting 180 = .ok (.aload_n 0, 1) := by decide +kernel
theorem dX8_setting_181 : decode cX8_setting 181 = .ok (.getfield 19, 3) := by decide +kernel
theorem dX8_setting_184 : decode cX8_setting 184 = .ok (.iconst 2, 1) := by decide +kernel
theorem dX8_setting_185 : decode cX8_setting 185 = .ok (.iaload, 1) := by decide +kernel
theorem dX8_setting_186 : decode cX8_setting 186 = .ok (.imul, 1) := by decide +kernel
theorem dX8_setting_187 : decode cX8_setting 187 = .ok (.iadd, 1) := by decide +kernel
theorem dX8_setting_188 : decode cX8_setting 188 = .ok (.iload 6, 2) := by decide +kernel
theorem dX8_setting_190 : decode cX8_setting 190 = .ok (.iconst 3, 1) := by decide +kernel
theorem dX8_setting_191 : decode cX8_setting 191 = .ok (.irem, 1) := by decide +kernel
theorem dX8_setting_192 : decode cX8_setting 192 = .ok (.iadd, 1) := by decide +kernel
theorem dX8_setting_193 : decode cX8_setting 193 = .ok (.istore 4, 2) := by decide +kernel
theorem dX8_setting_195 : decode cX8_setting 195 = .ok (.iload 8, 2) := by decide +kernel
theorem dX8_setting_197 : decode cX8_setting 197 = .ok (.istore 5, 2) := by decide +kernel
theorem dX8_setting_199 : decode cX8_setting 199 = .ok (.iinc 6 1, 3) := by decide +kernel
theorem dX8_setting_202 : decode cX8_setting 202 = .ok (.goto (-147), 3) := by decide +kernel
theorem dX8_setting_205 : decode cX8_setting 205 = .ok (.iload 4, 2) := by decide +kernel
theorem dX8_setting_207 : decode cX8_setting 207 = .ok (.ireturn, 1) := by decide +kernel
theorem dX8_seed_0 : decode cX8_seed 0 = .ok (.iload_n 1, 1) := by decide +kernel
theorem dX8_seed_1 : decode cX8_seed 1 = .ok (.ifCond .ge 6, 3) := by decide +kernel
theorem dX8_seed_4 : decode cX8_seed 4 = .ok (.ldc 121, 2) := by decide +kernel
theorem dX8_seed_6 : decode cX8_seed 6 = .ok (.ireturn, 1) := by decide +kernel
theorem dX8_seed_7 : decode cX8_seed 7 = .ok (.aload_n 0, 1) := by decide +kernel
theorem dX8_seed_8 : decode cX8_seed 8 = .ok (.getfield 375, 3) := by decide +kernel
theorem dX8_seed_11 : decode cX8_seed 11 = .ok (.istore_n 2, 1) := by decide +kernel
theorem dX8_seed_12 : decode cX8_seed 12 = .ok (.aload_n 0, 1) := by decide +kernel
theorem dX8_seed_13 : decode cX8_seed 13 = .ok (.iload_n 1, 1) := by decide +kernel
theorem dX8_seed_14 : decode cX8_seed 14 = .ok (.putfield 375, 3) := by decide +kernel
theorem dX8_seed_17 : decode cX8_seed 17 = .ok (.iload_n 2, 1) := by decide +kernel
theorem dX8_seed_18 : decode cX8_seed 18 = .ok (.ireturn, 1) := by decide +kernel
theorem dX8_draw_0 : decode cX8_draw 0 = .ok (.aload_n 0, 1) := by decide +kernel
theorem dX8_draw_1 : decode cX8_draw 1 = .ok (.aload_n 0, 1) := by decide +kernel
theorem dX8_draw_2 : decode cX8_draw 2 = .ok (.getfield 375, 3) := by decide +kernel
theorem dX8_draw_5 : decode cX8_draw 5 = .ok (.i2l, 1) := by decide +kernel
theorem dX8_draw_6 : decode cX8_draw 6 = .ok (.ldc2_w 378, 3) := by decide +kernel
theorem dX8_draw_9 : decode cX8_draw 9 = .ok (.lmul, 1) := by decide +kernel
theorem dX8_draw_10 : decode cX8_draw 10 = .ok (.ldc2_w 380, 3) := by decide +kernel
theorem dX8_draw_13 : decode cX8_draw 13 = .ok (.ladd, 1) := by decide +kernel
theorem dX8_draw_14 : decode cX8_draw 14 = .ok (.ldc2_w 382, 3) := by decide +kernel
theorem dX8_draw_17 : decode cX8_draw 17 = .ok (.lrem, 1) := by decide +kernel
theorem dX8_draw_18 : decode cX8_draw 18 = .ok (.l2i, 1) := by decide +kernel
theorem dX8_draw_19 : decode cX8_draw 19 = .ok (.putfield 375, 3) := by decide +kernel
theorem dX8_draw_22 : decode cX8_draw 22 = .ok (.aload_n 0, 1) := by decide +kernel
theorem dX8_draw_23 : decode cX8_draw 23 = .ok (.getfield 375, 3) := by decide +kernel
theorem dX8_draw_26 : decode cX8_draw 26 = .ok (.ldc_w 384, 3) := by decide +kernel
theorem dX8_draw_29 : decode cX8_draw 29 = .ok (.idiv, 1) := by decide +kernel
theorem dX8_draw_30 : decode cX8_draw 30 = .ok (.iload_n 1, 1) := by decide +kernel
theorem dX8_draw_31 : decode cX8_draw 31 = .ok (.irem, 1) := by decide +kernel
theorem dX8_draw_32 : decode cX8_draw 32 = .ok (.ireturn, 1) := by decide +kernel
theorem dX8_drawScrape_0 : decode cX8_drawScrape 0 = .ok (.aload_n 0, 1) := by decide +kernel
theorem dX8_drawScrape_1 : decode cX8_drawScrape 1 = .ok (.sipush 1000, 3) := by decide +kernel
theorem dX8_drawScrape_4 : decode cX8_drawScrape 4 = .ok (.invokevirtual 385, 3) := by decide +kernel
theorem dX8_drawScrape_7 : decode cX8_drawScrape 7 = .ok (.istore_n 2, 1) := by decide +kernel
theorem dX8_drawScrape_8 : decode cX8_drawScrape 8 = .ok (.iconst 0, 1) := by decide +kernel
theorem dX8_drawScrape_9 : decode cX8_drawScrape 9 = .ok (.istore_n 3, 1) := by decide +kernel
theorem dX8_drawScrape_10 : decode cX8_drawScrape 10 = .ok (.iconst 0, 1) := by decide +kernel
theorem dX8_drawScrape_11 : decode cX8_drawScrape 11 = .ok (.istore 4, 2) := by decide +kernel
theorem dX8_drawScrape_13 : decode cX8_drawScrape 13 = .ok (.iload 4, 2) := by decide +kernel
theorem dX8_drawScrape_15 : decode cX8_drawScrape 15 = .ok (.aload_n 0, 1) := by decide +kernel
theorem dX8_drawScrape_16 : decode cX8_drawScrape 16 = .ok (.getfield 31, 3) := by decide +kernel
theorem dX8_drawScrape_19 : decode cX8_drawScrape 19 = .ok (.iload_n 1, 1) := by decide +kernel
theorem dX8_drawScrape_20 : decode cX8_drawScrape 20 = .ok (.iaload, 1) := by decide +kernel
theorem dX8_drawScrape_21 : decode cX8_drawScrape 21 = .ok (.if_icmp .ge 32, 3) := by decide +kernel
theorem dX8_drawScrape_24 : decode cX8_drawScrape 24 = .ok (.iload_n 3, 1) := by decide +kernel
theorem dX8_drawScrape_25 : decode cX8_drawScrape 25 = .ok (.aload_n 0, 1) := by decide +kernel
theorem dX8_drawScrape_26 : decode cX8_drawScrape 26 = .ok (.getfield 37, 3) := by decide +kernel
theorem dX8_drawScrape_29 : decode cX8_drawScrape 29 = .ok (.bipush 8, 2) := by decide +kernel
theorem dX8_drawScrape_31 : decode cX8_drawScrape 31 = .ok (.iload_n 1, 1) := by decide +kernel
theorem dX8_drawScrape_32 : decode cX8_drawScrape 32 = .ok (.imul, 1) := by decide +kernel
theorem dX8_drawScrape_33 : decode cX8_drawScrape 33 = .ok (.iload 4, 2) := by decide +kernel
theorem dX8_drawScrape_35 : decode cX8_drawScrape 35 = .ok (.iadd, 1) := by decide +kernel
theorem dX8_drawScrape_36 : decode cX8_drawScrape 36 = .ok (.iaload, 1) := by decide +kernel
theorem dX8_drawScrape_37 : decode cX8_drawScrape 37 = .ok (.iadd, 1) := by decide +kernel
theorem dX8_drawScrape_38 : decode cX8_drawScrape 38 = .ok (.istore_n 3, 1) := by decide +kernel
theorem dX8_drawScrape_39 : decode cX8_drawScrape 39 = .ok (.iload_n 3, 1) := by decide +kernel
theorem dX8_drawScrape_40 : decode cX8_drawScrape 40 = .ok (.iload_n 2, 1) := by decide +kernel
theorem dX8_drawScrape_41 : decode cX8_drawScrape 41 = .ok (.if_icmp .le 6, 3) := by decide +kernel
theorem dX8_drawScrape_44 : decode cX8_drawScrape 44 = .ok (.iload 4, 2) := by decide +kernel
theorem dX8_drawScrape_46 : decode cX8_drawScrape 46 = .ok (.ireturn, 1) := by decide +kernel
theorem dX8_drawScrape_47 : decode cX8_drawScrape 47 = .ok (.iinc 4 1, 3) := by decide +kernel
theorem dX8_drawScrape_50 : decode cX8_drawScrape 50 = .ok (.goto (-37), 3) := by decide +kernel
theorem dX8_drawScrape_53 : decode cX8_drawScrape 53 = .ok (.iconst (-1), 1) := by decide +kernel
theorem dX8_drawScrape_54 : decode cX8_drawScrape 54 = .ok (.ireturn, 1) := by decide +kernel
theorem dX8_lives_0 : decode cX8_lives 0 = .ok (.aload_n 0, 1) := by decide +kernel
theorem dX8_lives_1 : decode cX8_lives 1 = .ok (.iload_n 1, 1) := by decide +kernel
theorem dX8_lives_2 : decode cX8_lives 2 = .ok (.invokevirtual 235, 3) := by decide +kernel
theorem dX8_lives_5 : decode cX8_lives 5 = .ok (.ifCond .eq 19, 3) := by decide +kernel
theorem dX8_lives_8 : decode cX8_lives 8 = .ok (.aload_n 0, 1) := by decide +kernel
theorem dX8_lives_9 : decode cX8_lives 9 = .ok (.iload_n 2, 1) := by decide +kernel
theorem dX8_lives_10 : decode cX8_lives 10 = .ok (.invokevirtual 113, 3) := by decide +kernel
theorem dX8_lives_13 : decode cX8_lives 13 = .ok (.ifCond .eq 11, 3) := by decide +kernel
theorem dX8_lives_16 : decode cX8_lives 16 = .ok (.aload_n 0, 1) := by decide +kernel
theorem dX8_lives_17 : decode cX8_lives 17 = .ok (.iload_n 3, 1) := by decide +kernel
theorem dX8_lives_18 : decode cX8_lives 18 = .ok (.invokevirtual 323, 3) := by decide +kernel
theorem dX8_lives_21 : decode cX8_lives 21 = .ok (.ifCond .ne 6, 3) := by decide +kernel
theorem dX8_lives_24 : decode cX8_lives 24 = .ok (.ldc 197, 2) := by decide +kernel
theorem dX8_lives_26 : decode cX8_lives 26 = .ok (.ireturn, 1) := by decide +kernel
theorem dX8_lives_27 : decode cX8_lives 27 = .ok (.iload 4, 2) := by decide +kernel
theorem dX8_lives_29 : decode cX8_lives 29 = .ok (.i2l, 1) := by decide +kernel
theorem dX8_lives_30 : decode cX8_lives 30 = .ok (.lconst 1, 1) := by decide +kernel
theorem dX8_lives_31 : decode cX8_lives 31 = .ok (.ldc2_w 117, 3) := by decide +kernel
theorem dX8_lives_34 : decode cX8_lives 34 = .ok (.invokestatic 109, 3) := by decide +kernel
theorem dX8_lives_37 : decode cX8_lives 37 = .ok (.ifCond .ne 6, 3) := by decide +kernel
theorem dX8_lives_40 : decode cX8_lives 40 = .ok (.ldc 121, 2) := by decide +kernel
theorem dX8_lives_42 : decode cX8_lives 42 = .ok (.ireturn, 1) := by decide +kernel
theorem dX8_lives_43 : decode cX8_lives 43 = .ok (.aload_n 0, 1) := by decide +kernel
theorem dX8_lives_44 : decode cX8_lives 44 = .ok (.iload_n 2, 1) := by decide +kernel
theorem dX8_lives_45 : decode cX8_lives 45 = .ok (.putfield 255, 3) := by decide +kernel
theorem dX8_lives_48 : decode cX8_lives 48 = .ok (.aload_n 0, 1) := by decide +kernel
theorem dX8_lives_49 : decode cX8_lives 49 = .ok (.iconst 0, 1) := by decide +kernel
theorem dX8_lives_50 : decode cX8_lives 50 = .ok (.putfield 205, 3) := by decide +kernel
theorem dX8_lives_53 : decode cX8_lives 53 = .ok (.aload_n 0, 1) := by decide +kernel
theorem dX8_lives_54 : decode cX8_lives 54 = .ok (.getfield 28, 3) := by decide +kernel
theorem dX8_lives_57 : decode cX8_lives 57 = .ok (.iload_n 2, 1) := by decide +kernel
theorem dX8_lives_58 : decode cX8_lives 58 = .ok (.iaload, 1) := by decide +kernel
theorem dX8_lives_59 : decode cX8_lives 59 = .ok (.istore 5, 2) := by decide +kernel
theorem dX8_lives_61 : decode cX8_lives 61 = .ok (.iconst 0, 1) := by decide +kernel
theorem dX8_lives_62 : decode cX8_lives 62 = .ok (.istore 6, 2) := by decide +kernel
theorem dX8_lives_64 : decode cX8_lives 64 = .ok (.iconst 0, 1) := by decide +kernel
theorem dX8_lives_65 : decode cX8_lives 65 = .ok (.istore 7, 2) := by decide +kernel
theorem dX8_lives_67 : decode cX8_lives 67 = .ok (.iload 7, 2) := by decide +kernel
theorem dX8_lives_69 : decode cX8_lives 69 = .ok (.iload 4, 2) := by decide +kernel
theorem dX8_lives_71 : decode cX8_lives 71 = .ok (.if_icmp .ge 134, 3) := by decide +kernel
theorem dX8_lives_74 : decode cX8_lives 74 = .ok (.iload 6, 2) := by decide +kernel
theorem dX8_lives_76 : decode cX8_lives 76 = .ok (.aload_n 0, 1) := by decide +kernel
theorem dX8_lives_77 : decode cX8_lives 77 = .ok (.getfield 13, 3) := by decide +kernel
theorem dX8_lives_80 : decode cX8_lives 80 = .ok (.bipush 10, 2) := by decide +kernel
theorem dX8_lives_82 : decode cX8_lives 82 = .ok (.iload_n 2, 1) := by decide +kernel
theorem dX8_lives_83 : decode cX8_lives 83 = .ok (.imul, 1) := by decide +kernel
theorem dX8_lives_84 : decode cX8_lives 84 = .ok (.iload 5, 2) := by decide +kernel
theorem dX8_lives_86 : decode cX8_lives 86 = .ok (.iadd, 1) := by decide +kernel
theorem dX8_lives_87 : decode cX8_lives 87 = .ok (.iaload, 1) := by decide +kernel
theorem dX8_lives_88 : decode cX8_lives 88 = .ok (.iadd, 1) := by decide +kernel
theorem dX8_lives_89 : decode cX8_lives 89 = .ok (.istore 6, 2) := by decide +kernel
theorem dX8_lives_91 : decode cX8_lives 91 = .ok (.iconst 0, 1) := by decide +kernel
theorem dX8_lives_92 : decode cX8_lives 92 = .ok (.istore 8, 2) := by decide +kernel
theorem dX8_lives_94 : decode cX8_lives 94 = .ok (.iconst 0, 1) := by decide +kernel
theorem dX8_lives_95 : decode cX8_lives 95 = .ok (.istore 9, 2) := by decide +kernel
theorem dX8_lives_97 : decode cX8_lives 97 = .ok (.iload 9, 2) := by decide +kernel
theorem dX8_lives_99 : decode cX8_lives 99 = .ok (.bipush 12, 2) := by decide +kernel
theorem dX8_lives_101 : decode cX8_lives 101 = .ok (.if_icmp .ge 87, 3) := by decide +kernel
theorem dX8_lives_104 : decode cX8_lives 104 = .ok (.aload_n 0, 1) := by decide +kernel
theorem dX8_lives_105 : decode cX8_lives 105 = .ok (.iload_n 1, 1) := by decide +kernel
theorem dX8_lives_106 : decode cX8_lives 106 = .ok (.invokevirtual 388, 3) := by decide +kernel
theorem dX8_lives_109 : decode cX8_lives 109 = .ok (.istore 10, 2) := by decide +kernel
theorem dX8_lives_111 : decode cX8_lives 111 = .ok (.iload 10, 2) := by decide +kernel
theorem dX8_lives_113 : decode cX8_lives 113 = .ok (.ifCond .lt 69, 3) := by decide +kernel
theorem dX8_lives_116 : decode cX8_lives 116 = .ok (.aload_n 0, 1) := by decide +kernel
theorem dX8_lives_117 : decode cX8_lives 117 = .ok (.getfield 34, 3) := by decide +kernel
theorem dX8_lives_120 : decode cX8_lives 120 = .ok (.bipush 8, 2) := by decide +kernel
theorem dX8_lives_122 : decode cX8_lives 122 = .ok (.iload_n 1, 1) := by decide +kernel
theorem dX8_lives_123 : decode cX8_lives 123 = .ok (.imul, 1) := by decide +kernel
theorem dX8_lives_124 : decode cX8_lives 124 = .ok (.iload 10, 2) := by decide +kernel
theorem dX8_lives_126 : decode cX8_lives 126 = .ok (.iadd, 1) := by decide +kernel
theorem dX8_lives_127 : decode cX8_lives 127 = .ok (.iaload, 1) := by decide +kernel
theorem dX8_lives_128 : decode cX8_lives 128 = .ok (.istore 11, 2) := by decide +kernel
theorem dX8_lives_130 : decode cX8_lives 130 = .ok (.aload_n 0, 1) := by decide +kernel
theorem dX8_lives_131 : decode cX8_lives 131 = .ok (.iload_n 3, 1) := by decide +kernel
theorem dX8_lives_132 : decode cX8_lives 132 = .ok (.iload 5, 2) := by decide +kernel
theorem dX8_lives_134 : decode cX8_lives 134 = .ok (.iload 9, 2) := by decide +kernel
theorem dX8_lives_136 : decode cX8_lives 136 = .ok (.iload 11, 2) := by decide +kernel
theorem dX8_lives_138 : decode cX8_lives 138 = .ok (.invokevirtual 261, 3) := by decide +kernel
theorem dX8_lives_141 : decode cX8_lives 141 = .ok (.istore 12, 2) := by decide +kernel
theorem dX8_lives_143 : decode cX8_lives 143 = .ok (.iload 6, 2) := by decide +kernel
theorem dX8_lives_145 : decode cX8_lives 145 = .ok (.iload 12, 2) := by decide +kernel
theorem dX8_lives_147 : decode cX8_lives 147 = .ok (.ifCond .eq 12, 3) := by decide +kernel
theorem dX8_lives_150 : decode cX8_lives 150 = .ok (.aload_n 0, 1) := by decide +kernel
theorem dX8_lives_151 : decode cX8_lives 151 = .ok (.iload 11, 2) := by decide +kernel
theorem dX8_lives_153 : decode cX8_lives 153 = .ok (.invokevirtual 265, 3) := by decide +kernel
theorem dX8_lives_156 : decode cX8_lives 156 = .ok (.goto 5, 3) := by decide +kernel
theorem dX8_lives_159 : decode cX8_lives 159 = .ok (.iload 11, 2) := by decide +kernel
theorem dX8_lives_161 : decode cX8_lives 161 = .ok (.iadd, 1) := by decide +kernel
theorem dX8_lives_162 : decode cX8_lives 162 = .ok (.istore 6, 2) := by decide +kernel
theorem dX8_lives_164 : decode cX8_lives 164 = .ok (.iload 12, 2) := by decide +kernel
theorem dX8_lives_166 : decode cX8_lives 166 = .ok (.ifCond .eq 12, 3) := by decide +kernel
theorem dX8_lives_169 : decode cX8_lives 169 = .ok (.aload_n 0, 1) := by decide +kernel
theorem dX8_lives_170 : decode cX8_lives 170 = .ok (.iload 8, 2) := by decide +kernel
theorem dX8_lives_172 : decode cX8_lives 172 = .ok (.invokevirtual 269, 3) := by decide +kernel
theorem dX8_lives_175 : decode cX8_lives 175 = .ok (.goto 5, 3) := by decide +kernel
theorem dX8_lives_178 : decode cX8_lives 178 = .ok (.iload 8, 2) := by decide +kernel
theorem dX8_lives_180 : decode cX8_lives 180 = .ok (.istore 8, 2) := by decide +kernel
theorem dX8_lives_182 : decode cX8_lives 182 = .ok (.iinc 9 1, 3) := by decide +kernel
theorem dX8_lives_185 : decode cX8_lives 185 = .ok (.goto (-88), 3) := by decide +kernel
theorem dX8_lives_188 : decode cX8_lives 188 = .ok (.aload_n 0, 1) := by decide +kernel
theorem dX8_lives_189 : decode cX8_lives 189 = .ok (.iload_n 2, 1) := by decide +kernel
theorem dX8_lives_190 : decode cX8_lives 190 = .ok (.iload 5, 2) := by decide +kernel
theorem dX8_lives_192 : decode cX8_lives 192 = .ok (.iload 8, 2) := by decide +kernel
theorem dX8_lives_194 : decode cX8_lives 194 = .ok (.invokevirtual 214, 3) := by decide +kernel
theorem dX8_lives_197 : decode cX8_lives 197 = .ok (.istore 5, 2) := by decide +kernel
theorem dX8_lives_199 : decode cX8_lives 199 = .ok (.iinc 7 1, 3) := by decide +kernel
theorem dX8_lives_202 : decode cX8_lives 202 = .ok (.goto (-135), 3) := by decide +kernel
theorem dX8_lives_205 : decode cX8_lives 205 = .ok (.iload 6, 2) := by decide +kernel
theorem dX8_lives_207 : decode cX8_lives 207 = .ok (.ireturn, 1) := by decide +kernel
theorem dX8_count_0 : decode cX8_count 0 = .ok (.iload_n 1, 1) := by decide +kernel
theorem dX8_count_1 : decode cX8_count 1 = .ok (.tableswitch 60 0 4 #[35, 40, 45, 50, 55], 35) := by decide +kernel
theorem dX8_count_36 : decode cX8_count 36 = .ok (.aload_n 0, 1) := by decide +kernel
theorem dX8_count_37 : decode cX8_count 37 = .ok (.getfield 106, 3) := by decide +kernel
theorem dX8_count_40 : decode cX8_count 40 = .ok (.ireturn, 1) := by decide +kernel
theorem dX8_count_41 : decode cX8_count 41 = .ok (.aload_n 0, 1) := by decide +kernel
theorem dX8_count_42 : decode cX8_count 42 = .ok (.getfield 246, 3) := by decide +kernel
theorem dX8_count_45 : decode cX8_count 45 = .ok (.ireturn, 1) := by decide +kernel
theorem dX8_count_46 : decode cX8_count 46 = .ok (.aload_n 0, 1) := by decide +kernel
theorem dX8_count_47 : decode cX8_count 47 = .ok (.getfield 328, 3) := by decide +kernel
theorem dX8_count_50 : decode cX8_count 50 = .ok (.ireturn, 1) := by decide +kernel
theorem dX8_count_51 : decode cX8_count 51 = .ok (.aload_n 0, 1) := by decide +kernel
theorem dX8_count_52 : decode cX8_count 52 = .ok (.getfield 354, 3) := by decide +kernel
theorem dX8_count_55 : decode cX8_count 55 = .ok (.ireturn, 1) := by decide +kernel
theorem dX8_count_56 : decode cX8_count 56 = .ok (.aload_n 0, 1) := by decide +kernel
theorem dX8_count_57 : decode cX8_count 57 = .ok (.getfield 122, 3) := by decide +kernel
theorem dX8_count_60 : decode cX8_count 60 = .ok (.ireturn, 1) := by decide +kernel
theorem dX8_count_61 : decode cX8_count 61 = .ok (.ldc 121, 2) := by decide +kernel
theorem dX8_count_63 : decode cX8_count 63 = .ok (.ireturn, 1) := by decide +kernel
theorem dX8_keep_0 : decode cX8_keep 0 = .ok (.iload_n 1, 1) := by decide +kernel
theorem dX8_keep_1 : decode cX8_keep 1 = .ok (.i2l, 1) := by decide +kernel
theorem dX8_keep_2 : decode cX8_keep 2 = .ok (.lconst 0, 1) := by decide +kernel
theorem dX8_keep_3 : decode cX8_keep 3 = .ok (.lconst 1, 1) := by decide +kernel
theorem dX8_keep_4 : decode cX8_keep 4 = .ok (.invokestatic 109, 3) := by decide +kernel
theorem dX8_keep_7 : decode cX8_keep 7 = .ok (.ifCond .ne 6, 3) := by decide +kernel
theorem dX8_keep_10 : decode cX8_keep 10 = .ok (.ldc 197, 2) := by decide +kernel
theorem dX8_keep_12 : decode cX8_keep 12 = .ok (.ireturn, 1) := by decide +kernel
theorem dX8_keep_13 : decode cX8_keep 13 = .ok (.bipush 100, 2) := by decide +kernel
theorem dX8_keep_15 : decode cX8_keep 15 = .ok (.iload_n 1, 1) := by decide +kernel
theorem dX8_keep_16 : decode cX8_keep 16 = .ok (.imul, 1) := by decide +kernel
theorem dX8_keep_17 : decode cX8_keep 17 = .ok (.istore_n 2, 1) := by decide +kernel
theorem dX8_keep_18 : decode cX8_keep 18 = .ok (.aload_n 0, 1) := by decide +kernel
theorem dX8_keep_19 : decode cX8_keep 19 = .ok (.getfield 100, 3) := by decide +kernel
theorem dX8_keep_22 : decode cX8_keep 22 = .ok (.iload_n 2, 1) := by decide +kernel
theorem dX8_keep_23 : decode cX8_keep 23 = .ok (.aload_n 0, 1) := by decide +kernel
theorem dX8_keep_24 : decode cX8_keep 24 = .ok (.getfield 328, 3) := by decide +kernel
theorem dX8_keep_27 : decode cX8_keep 27 = .ok (.iastore, 1) := by decide +kernel
theorem dX8_keep_28 : decode cX8_keep 28 = .ok (.aload_n 0, 1) := by decide +kernel
theorem dX8_keep_29 : decode cX8_keep 29 = .ok (.getfield 100, 3) := by decide +kernel
theorem dX8_keep_32 : decode cX8_keep 32 = .ok (.iload_n 2, 1) := by decide +kernel
theorem dX8_keep_33 : decode cX8_keep 33 = .ok (.iconst 1, 1) := by decide +kernel
theorem dX8_keep_34 : decode cX8_keep 34 = .ok (.iadd, 1) := by decide +kernel
theorem dX8_keep_35 : decode cX8_keep 35 = .ok (.aload_n 0, 1) := by decide +kernel
theorem dX8_keep_36 : decode cX8_keep 36 = .ok (.getfield 354, 3) := by decide +kernel
theorem dX8_keep_39 : decode cX8_keep 39 = .ok (.iastore, 1) := by decide +kernel
theorem dX8_keep_40 : decode cX8_keep 40 = .ok (.aload_n 0, 1) := by decide +kernel
theorem dX8_keep_41 : decode cX8_keep 41 = .ok (.getfield 100, 3) := by decide +kernel
theorem dX8_keep_44 : decode cX8_keep 44 = .ok (.iload_n 2, 1) := by decide +kernel
theorem dX8_keep_45 : decode cX8_keep 45 = .ok (.iconst 2, 1) := by decide +kernel
theorem dX8_keep_46 : decode cX8_keep 46 = .ok (.iadd, 1) := by decide +kernel
theorem dX8_keep_47 : decode cX8_keep 47 = .ok (.aload_n 0, 1) := by decide +kernel
theorem dX8_keep_48 : decode cX8_keep 48 = .ok (.getfield 375, 3) := by decide +kernel
theorem dX8_keep_51 : decode cX8_keep 51 = .ok (.iastore, 1) := by decide +kernel
theorem dX8_keep_52 : decode cX8_keep 52 = .ok (.iconst 0, 1) := by decide +kernel
theorem dX8_keep_53 : decode cX8_keep 53 = .ok (.istore_n 3, 1) := by decide +kernel
theorem dX8_keep_54 : decode cX8_keep 54 = .ok (.iload_n 3, 1) := by decide +kernel
theorem dX8_keep_55 : decode cX8_keep 55 = .ok (.bipush 24, 2) := by decide +kernel
theorem dX8_keep_57 : decode cX8_keep 57 = .ok (.if_icmp .ge 67, 3) := by decide +kernel
theorem dX8_keep_60 : decode cX8_keep 60 = .ok (.aload_n 0, 1) := by decide +kernel
theorem dX8_keep_61 : decode cX8_keep 61 = .ok (.getfield 100, 3) := by decide +kernel
theorem dX8_keep_64 : decode cX8_keep 64 = .ok (.iload_n 2, 1) := by decide +kernel
theorem dX8_keep_65 : decode cX8_keep 65 = .ok (.iconst 3, 1) := by decide +kernel
theorem dX8_keep_66 : decode cX8_keep 66 = .ok (.iadd, 1) := by decide +kernel
theorem dX8_keep_67 : decode cX8_keep 67 = .ok (.iload_n 3, 1) := by decide +kernel
theorem dX8_keep_68 : decode cX8_keep 68 = .ok (.iadd, 1) := by decide +kernel
theorem dX8_keep_69 : decode cX8_keep 69 = .ok (.aload_n 0, 1) := by decide +kernel
theorem dX8_keep_70 : decode cX8_keep 70 = .ok (.getfield 65, 3) := by decide +kernel
theorem dX8_keep_73 : decode cX8_keep 73 = .ok (.iload_n 3, 1) := by decide +kernel
theorem dX8_keep_74 : decode cX8_keep 74 = .ok (.iaload, 1) := by decide +kernel
theorem dX8_keep_75 : decode cX8_keep 75 = .ok (.iastore, 1) := by decide +kernel
theorem dX8_keep_76 : decode cX8_keep 76 = .ok (.aload_n 0, 1) := by decide +kernel
theorem dX8_keep_77 : decode cX8_keep 77 = .ok (.getfield 100, 3) := by decide +kernel
theorem dX8_keep_80 : decode cX8_keep 80 = .ok (.iload_n 2, 1) := by decide +kernel
theorem dX8_keep_81 : decode cX8_keep 81 = .ok (.bipush 27, 2) := by decide +kernel
theorem dX8_keep_83 : decode cX8_keep 83 = .ok (.iadd, 1) := by decide +kernel
theorem dX8_keep_84 : decode cX8_keep 84 = .ok (.iload_n 3, 1) := by decide +kernel
theorem dX8_keep_85 : decode cX8_keep 85 = .ok (.iadd, 1) := by decide +kernel
theorem dX8_keep_86 : decode cX8_keep 86 = .ok (.aload_n 0, 1) := by decide +kernel
theorem dX8_keep_87 : decode cX8_keep 87 = .ok (.getfield 68, 3) := by decide +kernel
theorem dX8_keep_90 : decode cX8_keep 90 = .ok (.iload_n 3, 1) := by decide +kernel
theorem dX8_keep_91 : decode cX8_keep 91 = .ok (.iaload, 1) := by decide +kernel
theorem dX8_keep_92 : decode cX8_keep 92 = .ok (.iastore, 1) := by decide +kernel
theorem dX8_keep_93 : decode cX8_keep 93 = .ok (.aload_n 0, 1) := by decide +kernel
theorem dX8_keep_94 : decode cX8_keep 94 = .ok (.getfield 100, 3) := by decide +kernel
theorem dX8_keep_97 : decode cX8_keep 97 = .ok (.iload_n 2, 1) := by decide +kernel
theorem dX8_keep_98 : decode cX8_keep 98 = .ok (.bipush 51, 2) := by decide +kernel
theorem dX8_keep_100 : decode cX8_keep 100 = .ok (.iadd, 1) := by decide +kernel
theorem dX8_keep_101 : decode cX8_keep 101 = .ok (.iload_n 3, 1) := by decide +kernel
theorem dX8_keep_102 : decode cX8_keep 102 = .ok (.iadd, 1) := by decide +kernel
theorem dX8_keep_103 : decode cX8_keep 103 = .ok (.aload_n 0, 1) := by decide +kernel
theorem dX8_keep_104 : decode cX8_keep 104 = .ok (.getfield 71, 3) := by decide +kernel
theorem dX8_keep_107 : decode cX8_keep 107 = .ok (.iload_n 3, 1) := by decide +kernel
theorem dX8_keep_108 : decode cX8_keep 108 = .ok (.baload, 1) := by decide +kernel
theorem dX8_keep_109 : decode cX8_keep 109 = .ok (.ifCond .eq 7, 3) := by decide +kernel
theorem dX8_keep_112 : decode cX8_keep 112 = .ok (.iconst 1, 1) := by decide +kernel
theorem dX8_keep_113 : decode cX8_keep 113 = .ok (.goto 4, 3) := by decide +kernel
theorem dX8_keep_116 : decode cX8_keep 116 = .ok (.iconst 0, 1) := by decide +kernel
theorem dX8_keep_117 : decode cX8_keep 117 = .ok (.iastore, 1) := by decide +kernel
theorem dX8_keep_118 : decode cX8_keep 118 = .ok (.iinc 3 1, 3) := by decide +kernel
theorem dX8_keep_121 : decode cX8_keep 121 = .ok (.goto (-67), 3) := by decide +kernel
theorem dX8_keep_124 : decode cX8_keep 124 = .ok (.iconst 0, 1) := by decide +kernel
theorem dX8_keep_125 : decode cX8_keep 125 = .ok (.istore_n 3, 1) := by decide +kernel
theorem dX8_keep_126 : decode cX8_keep 126 = .ok (.iload_n 3, 1) := by decide +kernel
theorem dX8_keep_127 : decode cX8_keep 127 = .ok (.bipush 8, 2) := by decide +kernel
theorem dX8_keep_129 : decode cX8_keep 129 = .ok (.if_icmp .ge 43, 3) := by decide +kernel
theorem dX8_keep_132 : decode cX8_keep 132 = .ok (.aload_n 0, 1) := by decide +kernel
theorem dX8_keep_133 : decode cX8_keep 133 = .ok (.getfield 100, 3) := by decide +kernel
theorem dX8_keep_136 : decode cX8_keep 136 = .ok (.iload_n 2, 1) := by decide +kernel
theorem dX8_keep_137 : decode cX8_keep 137 = .ok (.bipush 75, 2) := by decide +kernel
theorem dX8_keep_139 : decode cX8_keep 139 = .ok (.iadd, 1) := by decide +kernel
theorem dX8_keep_140 : decode cX8_keep 140 = .ok (.iload_n 3, 1) := by decide +kernel
theorem dX8_keep_141 : decode cX8_keep 141 = .ok (.iadd, 1) := by decide +kernel
theorem dX8_keep_142 : decode cX8_keep 142 = .ok (.aload_n 0, 1) := by decide +kernel
theorem dX8_keep_143 : decode cX8_keep 143 = .ok (.getfield 87, 3) := by decide +kernel
theorem dX8_keep_146 : decode cX8_keep 146 = .ok (.iload_n 3, 1) := by decide +kernel
theorem dX8_keep_147 : decode cX8_keep 147 = .ok (.iaload, 1) := by decide +kernel
theorem dX8_keep_148 : decode cX8_keep 148 = .ok (.iastore, 1) := by decide +kernel
theorem dX8_keep_149 : decode cX8_keep 149 = .ok (.aload_n 0, 1) := by decide +kernel
theorem dX8_keep_150 : decode cX8_keep 150 = .ok (.getfield 100, 3) := by decide +kernel
theorem dX8_keep_153 : decode cX8_keep 153 = .ok (.iload_n 2, 1) := by decide +kernel
theorem dX8_keep_154 : decode cX8_keep 154 = .ok (.bipush 83, 2) := by decide +kernel
theorem dX8_keep_156 : decode cX8_keep 156 = .ok (.iadd, 1) := by decide +kernel
theorem dX8_keep_157 : decode cX8_keep 157 = .ok (.iload_n 3, 1) := by decide +kernel
theorem dX8_keep_158 : decode cX8_keep 158 = .ok (.iadd, 1) := by decide +kernel
theorem dX8_keep_159 : decode cX8_keep 159 = .ok (.aload_n 0, 1) := by decide +kernel
theorem dX8_keep_160 : decode cX8_keep 160 = .ok (.getfield 90, 3) := by decide +kernel
theorem dX8_keep_163 : decode cX8_keep 163 = .ok (.iload_n 3, 1) := by decide +kernel
theorem dX8_keep_164 : decode cX8_keep 164 = .ok (.iaload, 1) := by decide +kernel
theorem dX8_keep_165 : decode cX8_keep 165 = .ok (.iastore, 1) := by decide +kernel
theorem dX8_keep_166 : decode cX8_keep 166 = .ok (.iinc 3 1, 3) := by decide +kernel
theorem dX8_keep_169 : decode cX8_keep 169 = .ok (.goto (-43), 3) := by decide +kernel
theorem dX8_keep_172 : decode cX8_keep 172 = .ok (.aload_n 0, 1) := by decide +kernel
theorem dX8_keep_173 : decode cX8_keep 173 = .ok (.getfield 103, 3) := by decide +kernel
theorem dX8_keep_176 : decode cX8_keep 176 = .ok (.iload_n 1, 1) := by decide +kernel
theorem dX8_keep_177 : decode cX8_keep 177 = .ok (.iconst 1, 1) := by decide +kernel
theorem dX8_keep_178 : decode cX8_keep 178 = .ok (.bastore, 1) := by decide +kernel
theorem dX8_keep_179 : decode cX8_keep 179 = .ok (.iconst 1, 1) := by decide +kernel
theorem dX8_keep_180 : decode cX8_keep 180 = .ok (.ireturn, 1) := by decide +kernel
theorem dX8_goBack_0 : decode cX8_goBack 0 = .ok (.iload_n 1, 1) := by decide +kernel
theorem dX8_goBack_1 : decode cX8_goBack 1 = .ok (.i2l, 1) := by decide +kernel
theorem dX8_goBack_2 : decode cX8_goBack 2 = .ok (.lconst 0, 1) := by decide +kernel
theorem dX8_goBack_3 : decode cX8_goBack 3 = .ok (.lconst 1, 1) := by decide +kernel
theorem dX8_goBack_4 : decode cX8_goBack 4 = .ok (.invokestatic 109, 3) := by decide +kernel
theorem dX8_goBack_7 : decode cX8_goBack 7 = .ok (.ifCond .ne 6, 3) := by decide +kernel
theorem dX8_goBack_10 : decode cX8_goBack 10 = .ok (.ldc 197, 2) := by decide +kernel
theorem dX8_goBack_12 : decode cX8_goBack 12 = .ok (.ireturn, 1) := by decide +kernel
theorem dX8_goBack_13 : decode cX8_goBack 13 = .ok (.aload_n 0, 1) := by decide +kernel
theorem dX8_goBack_14 : decode cX8_goBack 14 = .ok (.getfield 103, 3) := by decide +kernel
theorem dX8_goBack_17 : decode cX8_goBack 17 = .ok (.iload_n 1, 1) := by decide +kernel
theorem dX8_goBack_18 : decode cX8_goBack 18 = .ok (.baload, 1) := by decide +kernel
theorem dX8_goBack_19 : decode cX8_goBack 19 = .ok (.ifCond .ne 6, 3) := by decide +kernel
theorem dX8_goBack_22 : decode cX8_goBack 22 = .ok (.ldc 227, 2) := by decide +kernel
theorem dX8_goBack_24 : decode cX8_goBack 24 = .ok (.ireturn, 1) := by decide +kernel
theorem dX8_goBack_25 : decode cX8_goBack 25 = .ok (.bipush 100, 2) := by decide +kernel
theorem dX8_goBack_27 : decode cX8_goBack 27 = .ok (.iload_n 1, 1) := by decide +kernel
theorem dX8_goBack_28 : decode cX8_goBack 28 = .ok (.imul, 1) := by decide +kernel
theorem dX8_goBack_29 : decode cX8_goBack 29 = .ok (.istore_n 2, 1) := by decide +kernel
theorem dX8_goBack_30 : decode cX8_goBack 30 = .ok (.aload_n 0, 1) := by decide +kernel
theorem dX8_goBack_31 : decode cX8_goBack 31 = .ok (.aload_n 0, 1) := by decide +kernel
theorem dX8_goBack_32 : decode cX8_goBack 32 = .ok (.getfield 100, 3) := by decide +kernel
theorem dX8_goBack_35 : decode cX8_goBack 35 = .ok (.iload_n 2, 1) := by decide +kernel
theorem dX8_goBack_36 : decode cX8_goBack 36 = .ok (.iaload, 1) := by decide +kernel
theorem dX8_goBack_37 : decode cX8_goBack 37 = .ok (.putfield 328, 3) := by decide +kernel
theorem dX8_goBack_40 : decode cX8_goBack 40 = .ok (.aload_n 0, 1) := by decide +kernel
theorem dX8_goBack_41 : decode cX8_goBack 41 = .ok (.aload_n 0, 1) := by decide +kernel
theorem dX8_goBack_42 : decode cX8_goBack 42 = .ok (.getfield 100, 3) := by decide +kernel
theorem dX8_goBack_45 : decode cX8_goBack 45 = .ok (.iload_n 2, 1) := by decide +kernel
theorem dX8_goBack_46 : decode cX8_goBack 46 = .ok (.iconst 1, 1) := by decide +kernel
theorem dX8_goBack_47 : decode cX8_goBack 47 = .ok (.iadd, 1) := by decide +kernel
theorem dX8_goBack_48 : decode cX8_goBack 48 = .ok (.iaload, 1) := by decide +kernel
theorem dX8_goBack_49 : decode cX8_goBack 49 = .ok (.putfield 354, 3) := by decide +kernel
theorem dX8_goBack_52 : decode cX8_goBack 52 = .ok (.aload_n 0, 1) := by decide +kernel
theorem dX8_goBack_53 : decode cX8_goBack 53 = .ok (.aload_n 0, 1) := by decide +kernel
theorem dX8_goBack_54 : decode cX8_goBack 54 = .ok (.getfield 100, 3) := by decide +kernel
theorem dX8_goBack_57 : decode cX8_goBack 57 = .ok (.iload_n 2, 1) := by decide +kernel
theorem dX8_goBack_58 : decode cX8_goBack 58 = .ok (.iconst 2, 1) := by decide +kernel
theorem dX8_goBack_59 : decode cX8_goBack 59 = .ok (.iadd, 1) := by decide +kernel
theorem dX8_goBack_60 : decode cX8_goBack 60 = .ok (.iaload, 1) := by decide +kernel
theorem dX8_goBack_61 : decode cX8_goBack 61 = .ok (.putfield 375, 3) := by decide +kernel
theorem dX8_goBack_64 : decode cX8_goBack 64 = .ok (.iconst 0, 1) := by decide +kernel
theorem dX8_goBack_65 : decode cX8_goBack 65 = .ok (.istore_n 3, 1) := by decide +kernel
theorem dX8_goBack_66 : decode cX8_goBack 66 = .ok (.iload_n 3, 1) := by decide +kernel
theorem dX8_goBack_67 : decode cX8_goBack 67 = .ok (.bipush 24, 2) := by decide +kernel
theorem dX8_goBack_69 : decode cX8_goBack 69 = .ok (.if_icmp .ge 68, 3) := by decide +kernel
theorem dX8_goBack_72 : decode cX8_goBack 72 = .ok (.aload_n 0, 1) := by decide +kernel
theorem dX8_goBack_73 : decode cX8_goBack 73 = .ok (.getfield 65, 3) := by decide +kernel
theorem dX8_goBack_76 : decode cX8_goBack 76 = .ok (.iload_n 3, 1) := by decide +kernel
theorem dX8_goBack_77 : decode cX8_goBack 77 = .ok (.aload_n 0, 1) := by decide +kernel
theorem dX8_goBack_78 : decode cX8_goBack 78 = .ok (.getfield 100, 3) := by decide +kernel
theorem dX8_goBack_81 : decode cX8_goBack 81 = .ok (.iload_n 2, 1) := by decide +kernel
theorem dX8_goBack_82 : decode cX8_goBack 82 = .ok (.iconst 3, 1) := by decide +kernel
theorem dX8_goBack_83 : decode cX8_goBack 83 = .ok (.iadd, 1) := by decide +kernel
theorem dX8_goBack_84 : decode cX8_goBack 84 = .ok (.iload_n 3, 1) := by decide +kernel
theorem dX8_goBack_85 : decode cX8_goBack 85 = .ok (.iadd, 1) := by decide +kernel
theorem dX8_goBack_86 : decode cX8_goBack 86 = .ok (.iaload, 1) := by decide +kernel
theorem dX8_goBack_87 : decode cX8_goBack 87 = .ok (.iastore, 1) := by decide +kernel
theorem dX8_goBack_88 : decode cX8_goBack 88 = .ok (.aload_n 0, 1) := by decide +kernel
theorem dX8_goBack_89 : decode cX8_goBack 89 = .ok (.getfield 68, 3) := by decide +kernel
theorem dX8_goBack_92 : decode cX8_goBack 92 = .ok (.iload_n 3, 1) := by decide +kernel
theorem dX8_goBack_93 : decode cX8_goBack 93 = .ok (.aload_n 0, 1) := by decide +kernel
theorem dX8_goBack_94 : decode cX8_goBack 94 = .ok (.getfield 100, 3) := by decide +kernel
theorem dX8_goBack_97 : decode cX8_goBack 97 = .ok (.iload_n 2, 1) := by decide +kernel
theorem dX8_goBack_98 : decode cX8_goBack 98 = .ok (.bipush 27, 2) := by decide +kernel
theorem dX8_goBack_100 : decode cX8_goBack 100 = .ok (.iadd, 1) := by decide +kernel
theorem dX8_goBack_101 : decode cX8_goBack 101 = .ok (.iload_n 3, 1) := by decide +kernel
theorem dX8_goBack_102 : decode cX8_goBack 102 = .ok (.iadd, 1) := by decide +kernel
theorem dX8_goBack_103 : decode cX8_goBack 103 = .ok (.iaload, 1) := by decide +kernel
theorem dX8_goBack_104 : decode cX8_goBack 104 = .ok (.iastore, 1) := by decide +kernel
theorem dX8_goBack_105 : decode cX8_goBack 105 = .ok (.aload_n 0, 1) := by decide +kernel
theorem dX8_goBack_106 : decode cX8_goBack 106 = .ok (.getfield 71, 3) := by decide +kernel
theorem dX8_goBack_109 : decode cX8_goBack 109 = .ok (.iload_n 3, 1) := by decide +kernel
theorem dX8_goBack_110 : decode cX8_goBack 110 = .ok (.aload_n 0, 1) := by decide +kernel
theorem dX8_goBack_111 : decode cX8_goBack 111 = .ok (.getfield 100, 3) := by decide +kernel
theorem dX8_goBack_114 : decode cX8_goBack 114 = .ok (.iload_n 2, 1) := by decide +kernel
theorem dX8_goBack_115 : decode cX8_goBack 115 = .ok (.bipush 51, 2) := by decide +kernel
theorem dX8_goBack_117 : decode cX8_goBack 117 = .ok (.iadd, 1) := by decide +kernel
theorem dX8_goBack_118 : decode cX8_goBack 118 = .ok (.iload_n 3, 1) := by decide +kernel
theorem dX8_goBack_119 : decode cX8_goBack 119 = .ok (.iadd, 1) := by decide +kernel
theorem dX8_goBack_120 : decode cX8_goBack 120 = .ok (.iaload, 1) := by decide +kernel
theorem dX8_goBack_121 : decode cX8_goBack 121 = .ok (.iconst 1, 1) := by decide +kernel
theorem dX8_goBack_122 : decode cX8_goBack 122 = .ok (.if_icmp .ne 7, 3) := by decide +kernel
theorem dX8_goBack_125 : decode cX8_goBack 125 = .ok (.iconst 1, 1) := by decide +kernel
theorem dX8_goBack_126 : decode cX8_goBack 126 = .ok (.goto 4, 3) := by decide +kernel
theorem dX8_goBack_129 : decode cX8_goBack 129 = .ok (.iconst 0, 1) := by decide +kernel
theorem dX8_goBack_130 : decode cX8_goBack 130 = .ok (.bastore, 1) := by decide +kernel
theorem dX8_goBack_131 : decode cX8_goBack 131 = .ok (.iinc 3 1, 3) := by decide +kernel
theorem dX8_goBack_134 : decode cX8_goBack 134 = .ok (.goto (-68), 3) := by decide +kernel
theorem dX8_goBack_137 : decode cX8_goBack 137 = .ok (.iconst 0, 1) := by decide +kernel
theorem dX8_goBack_138 : decode cX8_goBack 138 = .ok (.istore_n 3, 1) := by decide +kernel
theorem dX8_goBack_139 : decode cX8_goBack 139 = .ok (.iload_n 3, 1) := by decide +kernel
theorem dX8_goBack_140 : decode cX8_goBack 140 = .ok (.bipush 8, 2) := by decide +kernel
theorem dX8_goBack_142 : decode cX8_goBack 142 = .ok (.if_icmp .ge 43, 3) := by decide +kernel
theorem dX8_goBack_145 : decode cX8_goBack 145 = .ok (.aload_n 0, 1) := by decide +kernel
theorem dX8_goBack_146 : decode cX8_goBack 146 = .ok (.getfield 87, 3) := by decide +kernel
theorem dX8_goBack_149 : decode cX8_goBack 149 = .ok (.iload_n 3, 1) := by decide +kernel
theorem dX8_goBack_150 : decode cX8_goBack 150 = .ok (.aload_n 0, 1) := by decide +kernel
theorem dX8_goBack_151 : decode cX8_goBack 151 = .ok (.getfield 100, 3) := by decide +kernel
theorem dX8_goBack_154 : decode cX8_goBack 154 = .ok (.iload_n 2, 1) := by decide +kernel
theorem dX8_goBack_155 : decode cX8_goBack 155 = .ok (.bipush 75, 2) := by decide +kernel
theorem dX8_goBack_157 : decode cX8_goBack 157 = .ok (.iadd, 1) := by decide +kernel
theorem dX8_goBack_158 : decode cX8_goBack 158 = .ok (.iload_n 3, 1) := by decide +kernel
theorem dX8_goBack_159 : decode cX8_goBack 159 = .ok (.iadd, 1) := by decide +kernel
theorem dX8_goBack_160 : decode cX8_goBack 160 = .ok (.iaload, 1) := by decide +kernel
theorem dX8_goBack_161 : decode cX8_goBack 161 = .ok (.iastore, 1) := by decide +kernel
theorem dX8_goBack_162 : decode cX8_goBack 162 = .ok (.aload_n 0, 1) := by decide +kernel
theorem dX8_goBack_163 : decode cX8_goBack 163 = .ok (.getfield 90, 3) := by decide +kernel
theorem dX8_goBack_166 : decode cX8_goBack 166 = .ok (.iload_n 3, 1) := by decide +kernel
theorem dX8_goBack_167 : decode cX8_goBack 167 = .ok (.aload_n 0, 1) := by decide +kernel
theorem dX8_goBack_168 : decode cX8_goBack 168 = .ok (.getfield 100, 3) := by decide +kernel
theorem dX8_goBack_171 : decode cX8_goBack 171 = .ok (.iload_n 2, 1) := by decide +kernel
theorem dX8_goBack_172 : decode cX8_goBack 172 = .ok (.bipush 83, 2) := by decide +kernel
theorem dX8_goBack_174 : decode cX8_goBack 174 = .ok (.iadd, 1) := by decide +kernel
theorem dX8_goBack_175 : decode cX8_goBack 175 = .ok (.iload_n 3, 1) := by decide +kernel
theorem dX8_goBack_176 : decode cX8_goBack 176 = .ok (.iadd, 1) := by decide +kernel
theorem dX8_goBack_177 : decode cX8_goBack 177 = .ok (.iaload, 1) := by decide +kernel
theorem dX8_goBack_178 : decode cX8_goBack 178 = .ok (.iastore, 1) := by decide +kernel
theorem dX8_goBack_179 : decode cX8_goBack 179 = .ok (.iinc 3 1, 3) := by decide +kernel
theorem dX8_goBack_182 : decode cX8_goBack 182 = .ok (.goto (-43), 3) := by decide +kernel
theorem dX8_goBack_185 : decode cX8_goBack 185 = .ok (.iconst 1, 1) := by decide +kernel
theorem dX8_goBack_186 : decode cX8_goBack 186 = .ok (.ireturn, 1) := by decide +kernel
