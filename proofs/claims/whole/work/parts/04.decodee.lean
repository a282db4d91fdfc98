theorem d_Model_finish_35 : decode b_Model_finish 35 = .ok (.istore 7, 2) := by decide +kernel
theorem d_Model_finish_37 : decode b_Model_finish 37 = .ok (.iload 5, 2) := by decide +kernel
theorem d_Model_finish_39 : decode b_Model_finish 39 = .ok (.iconst 1, 1) := by decide +kernel
theorem d_Model_finish_40 : decode b_Model_finish 40 = .ok (.if_icmp .ne 8, 3) := by decide +kernel
theorem d_Model_finish_43 : decode b_Model_finish 43 = .ok (.aload_n 0, 1) := by decide +kernel
theorem d_Model_finish_44 : decode b_Model_finish 44 = .ok (.iconst 1, 1) := by decide +kernel
theorem d_Model_finish_45 : decode b_Model_finish 45 = .ok (.putfield 116, 3) := by decide +kernel
theorem d_Model_finish_48 : decode b_Model_finish 48 = .ok (.iload_n 3, 1) := by decide +kernel
theorem d_Model_finish_49 : decode b_Model_finish 49 = .ok (.iconst 4, 1) := by decide +kernel
theorem d_Model_finish_50 : decode b_Model_finish 50 = .ok (.if_icmp .ge 18, 3) := by decide +kernel
theorem d_Model_finish_53 : decode b_Model_finish 53 = .ok (.iload 5, 2) := by decide +kernel
theorem d_Model_finish_55 : decode b_Model_finish 55 = .ok (.ifCond .eq 13, 3) := by decide +kernel
theorem d_Model_finish_58 : decode b_Model_finish 58 = .ok (.aload_n 0, 1) := by decide +kernel
theorem d_Model_finish_59 : decode b_Model_finish 59 = .ok (.dup, 1) := by decide +kernel
theorem d_Model_finish_60 : decode b_Model_finish 60 = .ok (.getfield 120, 3) := by decide +kernel
theorem d_Model_finish_63 : decode b_Model_finish 63 = .ok (.iconst 1, 1) := by decide +kernel
theorem d_Model_finish_64 : decode b_Model_finish 64 = .ok (.iadd, 1) := by decide +kernel
theorem d_Model_finish_65 : decode b_Model_finish 65 = .ok (.putfield 120, 3) := by decide +kernel
theorem d_Model_finish_68 : decode b_Model_finish 68 = .ok (.iload_n 3, 1) := by decide +kernel
theorem d_Model_finish_69 : decode b_Model_finish 69 = .ok (.iconst 4, 1) := by decide +kernel
theorem d_Model_finish_70 : decode b_Model_finish 70 = .ok (.if_icmp .ne 18, 3) := by decide +kernel
theorem d_Model_finish_73 : decode b_Model_finish 73 = .ok (.iload 5, 2) := by decide +kernel
theorem d_Model_finish_75 : decode b_Model_finish 75 = .ok (.ifCond .ne 13, 3) := by decide +kernel
theorem d_Model_finish_78 : decode b_Model_finish 78 = .ok (.aload_n 0, 1) := by decide +kernel
theorem d_Model_finish_79 : decode b_Model_finish 79 = .ok (.dup, 1) := by decide +kernel
theorem d_Model_finish_80 : decode b_Model_finish 80 = .ok (.getfield 123, 3) := by decide +kernel
theorem d_Model_finish_83 : decode b_Model_finish 83 = .ok (.iconst 1, 1) := by decide +kernel
theorem d_Model_finish_84 : decode b_Model_finish 84 = .ok (.iadd, 1) := by decide +kernel
theorem d_Model_finish_85 : decode b_Model_finish 85 = .ok (.putfield 123, 3) := by decide +kernel
theorem d_Model_finish_88 : decode b_Model_finish 88 = .ok (.iload_n 3, 1) := by decide +kernel
theorem d_Model_finish_89 : decode b_Model_finish 89 = .ok (.iconst 4, 1) := by decide +kernel
theorem d_Model_finish_90 : decode b_Model_finish 90 = .ok (.if_icmp .ne 19, 3) := by decide +kernel
theorem d_Model_finish_93 : decode b_Model_finish 93 = .ok (.iload 5, 2) := by decide +kernel
theorem d_Model_finish_95 : decode b_Model_finish 95 = .ok (.iconst 1, 1) := by decide +kernel
theorem d_Model_finish_96 : decode b_Model_finish 96 = .ok (.if_icmp .ne 13, 3) := by decide +kernel
theorem d_Model_finish_99 : decode b_Model_finish 99 = .ok (.aload_n 0, 1) := by decide +kernel
theorem d_Model_finish_100 : decode b_Model_finish 100 = .ok (.dup, 1) := by decide +kernel
theorem d_Model_finish_101 : decode b_Model_finish 101 = .ok (.getfield 126, 3) := by decide +kernel
theorem d_Model_finish_104 : decode b_Model_finish 104 = .ok (.iconst 1, 1) := by decide +kernel
theorem d_Model_finish_105 : decode b_Model_finish 105 = .ok (.iadd, 1) := by decide +kernel
theorem d_Model_finish_106 : decode b_Model_finish 106 = .ok (.putfield 126, 3) := by decide +kernel
theorem d_Model_finish_109 : decode b_Model_finish 109 = .ok (.iload_n 3, 1) := by decide +kernel
theorem d_Model_finish_110 : decode b_Model_finish 110 = .ok (.iconst 4, 1) := by decide +kernel
theorem d_Model_finish_111 : decode b_Model_finish 111 = .ok (.if_icmp .ne 19, 3) := by decide +kernel
theorem d_Model_finish_114 : decode b_Model_finish 114 = .ok (.iload 5, 2) := by decide +kernel
theorem d_Model_finish_116 : decode b_Model_finish 116 = .ok (.iconst 2, 1) := by decide +kernel
theorem d_Model_finish_117 : decode b_Model_finish 117 = .ok (.if_icmp .ne 13, 3) := by decide +kernel
theorem d_Model_finish_120 : decode b_Model_finish 120 = .ok (.aload_n 0, 1) := by decide +kernel
theorem d_Model_finish_121 : decode b_Model_finish 121 = .ok (.dup, 1) := by decide +kernel
theorem d_Model_finish_122 : decode b_Model_finish 122 = .ok (.getfield 129, 3) := by decide +kernel
theorem d_Model_finish_125 : decode b_Model_finish 125 = .ok (.iconst 1, 1) := by decide +kernel
theorem d_Model_finish_126 : decode b_Model_finish 126 = .ok (.iadd, 1) := by decide +kernel
theorem d_Model_finish_127 : decode b_Model_finish 127 = .ok (.putfield 129, 3) := by decide +kernel
theorem d_Model_finish_130 : decode b_Model_finish 130 = .ok (.iload 7, 2) := by decide +kernel
theorem d_Model_finish_132 : decode b_Model_finish 132 = .ok (.sipush 150, 3) := by decide +kernel
theorem d_Model_finish_135 : decode b_Model_finish 135 = .ok (.if_icmp .lt 4, 3) := by decide +kernel
theorem d_Model_finish_138 : decode b_Model_finish 138 = .ok (.return_, 1) := by decide +kernel
theorem d_Model_finish_139 : decode b_Model_finish 139 = .ok (.aload_n 0, 1) := by decide +kernel
theorem d_Model_finish_140 : decode b_Model_finish 140 = .ok (.getfield 69, 3) := by decide +kernel
theorem d_Model_finish_143 : decode b_Model_finish 143 = .ok (.iload 7, 2) := by decide +kernel
theorem d_Model_finish_145 : decode b_Model_finish 145 = .ok (.bipush 8, 2) := by decide +kernel
theorem d_Model_finish_147 : decode b_Model_finish 147 = .ok (.imul, 1) := by decide +kernel
theorem d_Model_finish_148 : decode b_Model_finish 148 = .ok (.iconst 4, 1) := by decide +kernel
theorem d_Model_finish_149 : decode b_Model_finish 149 = .ok (.iadd, 1) := by decide +kernel
theorem d_Model_finish_150 : decode b_Model_finish 150 = .ok (.iload 5, 2) := by decide +kernel
theorem d_Model_finish_152 : decode b_Model_finish 152 = .ok (.iastore, 1) := by decide +kernel
theorem d_Model_finish_153 : decode b_Model_finish 153 = .ok (.aload_n 0, 1) := by decide +kernel
theorem d_Model_finish_154 : decode b_Model_finish 154 = .ok (.getfield 69, 3) := by decide +kernel
theorem d_Model_finish_157 : decode b_Model_finish 157 = .ok (.iload 7, 2) := by decide +kernel
theorem d_Model_finish_159 : decode b_Model_finish 159 = .ok (.bipush 8, 2) := by decide +kernel
theorem d_Model_finish_161 : decode b_Model_finish 161 = .ok (.imul, 1) := by decide +kernel
theorem d_Model_finish_162 : decode b_Model_finish 162 = .ok (.iconst 5, 1) := by decide +kernel
theorem d_Model_finish_163 : decode b_Model_finish 163 = .ok (.iadd, 1) := by decide +kernel
theorem d_Model_finish_164 : decode b_Model_finish 164 = .ok (.iload 5, 2) := by decide +kernel
theorem d_Model_finish_166 : decode b_Model_finish 166 = .ok (.ifCond .ne 7, 3) := by decide +kernel
theorem d_Model_finish_169 : decode b_Model_finish 169 = .ok (.iconst (-1), 1) := by decide +kernel
theorem d_Model_finish_170 : decode b_Model_finish 170 = .ok (.goto 10, 3) := by decide +kernel
theorem d_Model_finish_173 : decode b_Model_finish 173 = .ok (.aload_n 0, 1) := by decide +kernel
theorem d_Model_finish_174 : decode b_Model_finish 174 = .ok (.getfield 60, 3) := by decide +kernel
theorem d_Model_finish_177 : decode b_Model_finish 177 = .ok (.iload 6, 2) := by decide +kernel
theorem d_Model_finish_179 : decode b_Model_finish 179 = .ok (.iaload, 1) := by decide +kernel
theorem d_Model_finish_180 : decode b_Model_finish 180 = .ok (.iastore, 1) := by decide +kernel
theorem d_Model_finish_181 : decode b_Model_finish 181 = .ok (.aload_n 0, 1) := by decide +kernel
theorem d_Model_finish_182 : decode b_Model_finish 182 = .ok (.getfield 69, 3) := by decide +kernel
theorem d_Model_finish_185 : decode b_Model_finish 185 = .ok (.iload 7, 2) := by decide +kernel
theorem d_Model_finish_187 : decode b_Model_finish 187 = .ok (.bipush 8, 2) := by decide +kernel
theorem d_Model_finish_189 : decode b_Model_finish 189 = .ok (.imul, 1) := by decide +kernel
theorem d_Model_finish_190 : decode b_Model_finish 190 = .ok (.bipush 6, 2) := by decide +kernel
theorem d_Model_finish_192 : decode b_Model_finish 192 = .ok (.iadd, 1) := by decide +kernel
theorem d_Model_finish_193 : decode b_Model_finish 193 = .ok (.iload 5, 2) := by decide +kernel
theorem d_Model_finish_195 : decode b_Model_finish 195 = .ok (.ifCond .ne 7, 3) := by decide +kernel
theorem d_Model_finish_198 : decode b_Model_finish 198 = .ok (.iconst 0, 1) := by decide +kernel
theorem d_Model_finish_199 : decode b_Model_finish 199 = .ok (.goto 11, 3) := by decide +kernel
theorem d_Model_finish_202 : decode b_Model_finish 202 = .ok (.aload_n 0, 1) := by decide +kernel
theorem d_Model_finish_203 : decode b_Model_finish 203 = .ok (.getfield 66, 3) := by decide +kernel
theorem d_Model_finish_206 : decode b_Model_finish 206 = .ok (.iload_n 3, 1) := by decide +kernel
theorem d_Model_finish_207 : decode b_Model_finish 207 = .ok (.iaload, 1) := by decide +kernel
theorem d_Model_finish_208 : decode b_Model_finish 208 = .ok (.iconst 1, 1) := by decide +kernel
theorem d_Model_finish_209 : decode b_Model_finish 209 = .ok (.isub, 1) := by decide +kernel
theorem d_Model_finish_210 : decode b_Model_finish 210 = .ok (.iastore, 1) := by decide +kernel
theorem d_Model_finish_211 : decode b_Model_finish 211 = .ok (.aload_n 0, 1) := by decide +kernel
theorem d_Model_finish_212 : decode b_Model_finish 212 = .ok (.getfield 69, 3) := by decide +kernel
theorem d_Model_finish_215 : decode b_Model_finish 215 = .ok (.iload 7, 2) := by decide +kernel
theorem d_Model_finish_217 : decode b_Model_finish 217 = .ok (.bipush 8, 2) := by decide +kernel
theorem d_Model_finish_219 : decode b_Model_finish 219 = .ok (.imul, 1) := by decide +kernel
theorem d_Model_finish_220 : decode b_Model_finish 220 = .ok (.bipush 7, 2) := by decide +kernel
theorem d_Model_finish_222 : decode b_Model_finish 222 = .ok (.iadd, 1) := by decide +kernel
theorem d_Model_finish_223 : decode b_Model_finish 223 = .ok (.iload 4, 2) := by decide +kernel
theorem d_Model_finish_225 : decode b_Model_finish 225 = .ok (.iastore, 1) := by decide +kernel
theorem d_Model_finish_226 : decode b_Model_finish 226 = .ok (.iconst 0, 1) := by decide +kernel
theorem d_Model_finish_227 : decode b_Model_finish 227 = .ok (.istore 8, 2) := by decide +kernel
theorem d_Model_finish_229 : decode b_Model_finish 229 = .ok (.iload 8, 2) := by decide +kernel
theorem d_Model_finish_231 : decode b_Model_finish 231 = .ok (.iconst 4, 1) := by decide +kernel
theorem d_Model_finish_232 : decode b_Model_finish 232 = .ok (.if_icmp .ge 48, 3) := by decide +kernel
theorem d_Model_finish_235 : decode b_Model_finish 235 = .ok (.aload_n 0, 1) := by decide +kernel
theorem d_Model_finish_236 : decode b_Model_finish 236 = .ok (.getfield 72, 3) := by decide +kernel
theorem d_Model_finish_239 : decode b_Model_finish 239 = .ok (.iload 7, 2) := by decide +kernel
theorem d_Model_finish_241 : decode b_Model_finish 241 = .ok (.iconst 4, 1) := by decide +kernel
theorem d_Model_finish_242 : decode b_Model_finish 242 = .ok (.imul, 1) := by decide +kernel
theorem d_Model_finish_243 : decode b_Model_finish 243 = .ok (.iload 8, 2) := by decide +kernel
theorem d_Model_finish_245 : decode b_Model_finish 245 = .ok (.iadd, 1) := by decide +kernel
theorem d_Model_finish_246 : decode b_Model_finish 246 = .ok (.iload 8, 2) := by decide +kernel
theorem d_Model_finish_248 : decode b_Model_finish 248 = .ok (.aload_n 0, 1) := by decide +kernel
theorem d_Model_finish_249 : decode b_Model_finish 249 = .ok (.getfield 66, 3) := by decide +kernel
theorem d_Model_finish_252 : decode b_Model_finish 252 = .ok (.iload_n 3, 1) := by decide +kernel
theorem d_Model_finish_253 : decode b_Model_finish 253 = .ok (.iaload, 1) := by decide +kernel
theorem d_Model_finish_254 : decode b_Model_finish 254 = .ok (.if_icmp .ge 16, 3) := by decide +kernel
theorem d_Model_finish_257 : decode b_Model_finish 257 = .ok (.aload_n 0, 1) := by decide +kernel
theorem d_Model_finish_258 : decode b_Model_finish 258 = .ok (.getfield 60, 3) := by decide +kernel
theorem d_Model_finish_261 : decode b_Model_finish 261 = .ok (.iload 6, 2) := by decide +kernel
theorem d_Model_finish_263 : decode b_Model_finish 263 = .ok (.iload 8, 2) := by decide +kernel
theorem d_Model_finish_265 : decode b_Model_finish 265 = .ok (.iadd, 1) := by decide +kernel
theorem d_Model_finish_266 : decode b_Model_finish 266 = .ok (.iaload, 1) := by decide +kernel
theorem d_Model_finish_267 : decode b_Model_finish 267 = .ok (.goto 6, 3) := by decide +kernel
theorem d_Model_finish_270 : decode b_Model_finish 270 = .ok (.sipush (-1000), 3) := by decide +kernel
theorem d_Model_finish_273 : decode b_Model_finish 273 = .ok (.iastore, 1) := by decide +kernel
theorem d_Model_finish_274 : decode b_Model_finish 274 = .ok (.iinc 8 1, 3) := by decide +kernel
theorem d_Model_finish_277 : decode b_Model_finish 277 = .ok (.goto (-48), 3) := by decide +kernel
theorem d_Model_finish_280 : decode b_Model_finish 280 = .ok (.return_, 1) := by decide +kernel
theorem d_Model_broken_0 : decode b_Model_broken 0 = .ok (.aload_n 0, 1) := by decide +kernel
theorem d_Model_broken_1 : decode b_Model_broken 1 = .ok (.getfield 132, 3) := by decide +kernel
theorem d_Model_broken_4 : decode b_Model_broken 4 = .ok (.ifCond .le 18, 3) := by decide +kernel
theorem d_Model_broken_7 : decode b_Model_broken 7 = .ok (.aload_n 0, 1) := by decide +kernel
theorem d_Model_broken_8 : decode b_Model_broken 8 = .ok (.getfield 126, 3) := by decide +kernel
theorem d_Model_broken_11 : decode b_Model_broken 11 = .ok (.aload_n 0, 1) := by decide +kernel
theorem d_Model_broken_12 : decode b_Model_broken 12 = .ok (.getfield 132, 3) := by decide +kernel
theorem d_Model_broken_15 : decode b_Model_broken 15 = .ok (.if_icmp .lt 7, 3) := by decide +kernel
theorem d_Model_broken_18 : decode b_Model_broken 18 = .ok (.iconst 1, 1) := by decide +kernel
theorem d_Model_broken_19 : decode b_Model_broken 19 = .ok (.goto 4, 3) := by decide +kernel
theorem d_Model_broken_22 : decode b_Model_broken 22 = .ok (.iconst 0, 1) := by decide +kernel
theorem d_Model_broken_23 : decode b_Model_broken 23 = .ok (.ireturn, 1) := by decide +kernel
theorem d_Model_round_0 : decode b_Model_round 0 = .ok (.aload_n 0, 1) := by decide +kernel
theorem d_Model_round_1 : decode b_Model_round 1 = .ok (.iconst 1, 1) := by decide +kernel
theorem d_Model_round_2 : decode b_Model_round 2 = .ok (.iload_n 1, 1) := by decide +kernel
theorem d_Model_round_3 : decode b_Model_round 3 = .ok (.iload_n 2, 1) := by decide +kernel
theorem d_Model_round_4 : decode b_Model_round 4 = .ok (.invokevirtual 109, 3) := by decide +kernel
theorem d_Model_round_7 : decode b_Model_round 7 = .ok (.iconst 0, 1) := by decide +kernel
theorem d_Model_round_8 : decode b_Model_round 8 = .ok (.istore_n 3, 1) := by decide +kernel
theorem d_Model_round_9 : decode b_Model_round 9 = .ok (.iload_n 3, 1) := by decide +kernel
theorem d_Model_round_10 : decode b_Model_round 10 = .ok (.aload_n 0, 1) := by decide +kernel
theorem d_Model_round_11 : decode b_Model_round 11 = .ok (.getfield 135, 3) := by decide +kernel
theorem d_Model_round_14 : decode b_Model_round 14 = .ok (.if_icmp .ge 51, 3) := by decide +kernel
theorem d_Model_round_17 : decode b_Model_round 17 = .ok (.aload_n 0, 1) := by decide +kernel
theorem d_Model_round_18 : decode b_Model_round 18 = .ok (.getfield 25, 3) := by decide +kernel
theorem d_Model_round_21 : decode b_Model_round 21 = .ok (.aload_n 0, 1) := by decide +kernel
theorem d_Model_round_22 : decode b_Model_round 22 = .ok (.getfield 51, 3) := by decide +kernel
theorem d_Model_round_25 : decode b_Model_round 25 = .ok (.iload_n 3, 1) := by decide +kernel
theorem d_Model_round_26 : decode b_Model_round 26 = .ok (.iaload, 1) := by decide +kernel
theorem d_Model_round_27 : decode b_Model_round 27 = .ok (.baload, 1) := by decide +kernel
theorem d_Model_round_28 : decode b_Model_round 28 = .ok (.ifCond .eq 6, 3) := by decide +kernel
theorem d_Model_round_31 : decode b_Model_round 31 = .ok (.goto 28, 3) := by decide +kernel
theorem d_Model_round_34 : decode b_Model_round 34 = .ok (.aload_n 0, 1) := by decide +kernel
theorem d_Model_round_35 : decode b_Model_round 35 = .ok (.dup, 1) := by decide +kernel
theorem d_Model_round_36 : decode b_Model_round 36 = .ok (.getfield 138, 3) := by decide +kernel
theorem d_Model_round_39 : decode b_Model_round 39 = .ok (.iconst 1, 1) := by decide +kernel
theorem d_Model_round_40 : decode b_Model_round 40 = .ok (.iadd, 1) := by decide +kernel
theorem d_Model_round_41 : decode b_Model_round 41 = .ok (.putfield 138, 3) := by decide +kernel
theorem d_Model_round_44 : decode b_Model_round 44 = .ok (.aload_n 0, 1) := by decide +kernel
theorem d_Model_round_45 : decode b_Model_round 45 = .ok (.getfield 57, 3) := by decide +kernel
theorem d_Model_round_48 : decode b_Model_round 48 = .ok (.aload_n 0, 1) := by decide +kernel
theorem d_Model_round_49 : decode b_Model_round 49 = .ok (.getfield 51, 3) := by decide +kernel
theorem d_Model_round_52 : decode b_Model_round 52 = .ok (.iload_n 3, 1) := by decide +kernel
theorem d_Model_round_53 : decode b_Model_round 53 = .ok (.iaload, 1) := by decide +kernel
theorem d_Model_round_54 : decode b_Model_round 54 = .ok (.aload_n 0, 1) := by decide +kernel
theorem d_Model_round_55 : decode b_Model_round 55 = .ok (.getfield 138, 3) := by decide +kernel
theorem d_Model_round_58 : decode b_Model_round 58 = .ok (.iastore, 1) := by decide +kernel
theorem d_Model_round_59 : decode b_Model_round 59 = .ok (.iinc 3 1, 3) := by decide +kernel
theorem d_Model_round_62 : decode b_Model_round 62 = .ok (.goto (-53), 3) := by decide +kernel
theorem d_Model_round_65 : decode b_Model_round 65 = .ok (.aload_n 0, 1) := by decide +kernel
theorem d_Model_round_66 : decode b_Model_round 66 = .ok (.getfield 66, 3) := by decide +kernel
theorem d_Model_round_69 : decode b_Model_round 69 = .ok (.iconst 4, 1) := by decide +kernel
theorem d_Model_round_70 : decode b_Model_round 70 = .ok (.iconst 0, 1) := by decide +kernel
theorem d_Model_round_71 : decode b_Model_round 71 = .ok (.iastore, 1) := by decide +kernel
theorem d_Model_round_72 : decode b_Model_round 72 = .ok (.iconst 0, 1) := by decide +kernel
theorem d_Model_round_73 : decode b_Model_round 73 = .ok (.istore_n 3, 1) := by decide +kernel
theorem d_Model_round_74 : decode b_Model_round 74 = .ok (.iload_n 3, 1) := by decide +kernel
theorem d_Model_round_75 : decode b_Model_round 75 = .ok (.aload_n 0, 1) := by decide +kernel
theorem d_Model_round_76 : decode b_Model_round 76 = .ok (.getfield 135, 3) := by decide +kernel
theorem d_Model_round_79 : decode b_Model_round 79 = .ok (.if_icmp .ge 30, 3) := by decide +kernel
theorem d_Model_round_82 : decode b_Model_round 82 = .ok (.aload_n 0, 1) := by decide +kernel
theorem d_Model_round_83 : decode b_Model_round 83 = .ok (.getfield 66, 3) := by decide +kernel
theorem d_Model_round_86 : decode b_Model_round 86 = .ok (.iconst 4, 1) := by decide +kernel
theorem d_Model_round_87 : decode b_Model_round 87 = .ok (.iaload, 1) := by decide +kernel
theorem d_Model_round_88 : decode b_Model_round 88 = .ok (.ifCond .ne 21, 3) := by decide +kernel
theorem d_Model_round_91 : decode b_Model_round 91 = .ok (.aload_n 0, 1) := by decide +kernel
theorem d_Model_round_92 : decode b_Model_round 92 = .ok (.aload_n 0, 1) := by decide +kernel
theorem d_Model_round_93 : decode b_Model_round 93 = .ok (.getfield 51, 3) := by decide +kernel
theorem d_Model_round_96 : decode b_Model_round 96 = .ok (.iload_n 3, 1) := by decide +kernel
theorem d_Model_round_97 : decode b_Model_round 97 = .ok (.iaload, 1) := by decide +kernel
theorem d_Model_round_98 : decode b_Model_round 98 = .ok (.iconst 1, 1) := by decide +kernel
theorem d_Model_round_99 : decode b_Model_round 99 = .ok (.iconst 4, 1) := by decide +kernel
theorem d_Model_round_100 : decode b_Model_round 100 = .ok (.invokevirtual 141, 3) := by decide +kernel
theorem d_Model_round_103 : decode b_Model_round 103 = .ok (.iinc 3 1, 3) := by decide +kernel
theorem d_Model_round_106 : decode b_Model_round 106 = .ok (.goto (-32), 3) := by decide +kernel
theorem d_Model_round_109 : decode b_Model_round 109 = .ok (.aload_n 0, 1) := by decide +kernel
theorem d_Model_round_110 : decode b_Model_round 110 = .ok (.getfield 66, 3) := by decide +kernel
theorem d_Model_round_113 : decode b_Model_round 113 = .ok (.iconst 4, 1) := by decide +kernel
theorem d_Model_round_114 : decode b_Model_round 114 = .ok (.iaload, 1) := by decide +kernel
theorem d_Model_round_115 : decode b_Model_round 115 = .ok (.ifCond .ne 12, 3) := by decide +kernel
theorem d_Model_round_118 : decode b_Model_round 118 = .ok (.aload_n 0, 1) := by decide +kernel
theorem d_Model_round_119 : decode b_Model_round 119 = .ok (.iload_n 1, 1) := by decide +kernel
theorem d_Model_round_120 : decode b_Model_round 120 = .ok (.iconst 4, 1) := by decide +kernel
theorem d_Model_round_121 : decode b_Model_round 121 = .ok (.iload_n 2, 1) := by decide +kernel
theorem d_Model_round_122 : decode b_Model_round 122 = .ok (.iadd, 1) := by decide +kernel
theorem d_Model_round_123 : decode b_Model_round 123 = .ok (.iconst 4, 1) := by decide +kernel
theorem d_Model_round_124 : decode b_Model_round 124 = .ok (.invokevirtual 141, 3) := by decide +kernel
theorem d_Model_round_127 : decode b_Model_round 127 = .ok (.iload_n 3, 1) := by decide +kernel
theorem d_Model_round_128 : decode b_Model_round 128 = .ok (.iconst 1, 1) := by decide +kernel
theorem d_Model_round_129 : decode b_Model_round 129 = .ok (.isub, 1) := by decide +kernel
theorem d_Model_round_130 : decode b_Model_round 130 = .ok (.istore 4, 2) := by decide +kernel
theorem d_Model_round_132 : decode b_Model_round 132 = .ok (.iload 4, 2) := by decide +kernel
theorem d_Model_round_134 : decode b_Model_round 134 = .ok (.ifCond .lt 22, 3) := by decide +kernel
theorem d_Model_round_137 : decode b_Model_round 137 = .ok (.aload_n 0, 1) := by decide +kernel
theorem d_Model_round_138 : decode b_Model_round 138 = .ok (.aload_n 0, 1) := by decide +kernel
theorem d_Model_round_139 : decode b_Model_round 139 = .ok (.getfield 51, 3) := by decide +kernel
theorem d_Model_round_142 : decode b_Model_round 142 = .ok (.iload 4, 2) := by decide +kernel
theorem d_Model_round_144 : decode b_Model_round 144 = .ok (.iaload, 1) := by decide +kernel
theorem d_Model_round_145 : decode b_Model_round 145 = .ok (.iconst 2, 1) := by decide +kernel
theorem d_Model_round_146 : decode b_Model_round 146 = .ok (.iconst 4, 1) := by decide +kernel
theorem d_Model_round_147 : decode b_Model_round 147 = .ok (.invokevirtual 141, 3) := by decide +kernel
theorem d_Model_round_150 : decode b_Model_round 150 = .ok (.iinc 4 (-1), 3) := by decide +kernel
theorem d_Model_round_153 : decode b_Model_round 153 = .ok (.goto (-21), 3) := by decide +kernel
theorem d_Model_round_156 : decode b_Model_round 156 = .ok (.aload_n 0, 1) := by decide +kernel
theorem d_Model_round_157 : decode b_Model_round 157 = .ok (.iload_n 1, 1) := by decide +kernel
theorem d_Model_round_158 : decode b_Model_round 158 = .ok (.iload_n 2, 1) := by decide +kernel
theorem d_Model_round_159 : decode b_Model_round 159 = .ok (.iconst 4, 1) := by decide +kernel
theorem d_Model_round_160 : decode b_Model_round 160 = .ok (.aload_n 0, 1) := by decide +kernel
theorem d_Model_round_161 : decode b_Model_round 161 = .ok (.getfield 57, 3) := by decide +kernel
theorem d_Model_round_164 : decode b_Model_round 164 = .ok (.aload_n 0, 1) := by decide +kernel
theorem d_Model_round_165 : decode b_Model_round 165 = .ok (.getfield 7, 3) := by decide +kernel
theorem d_Model_round_168 : decode b_Model_round 168 = .ok (.iload_n 1, 1) := by decide +kernel
theorem d_Model_round_169 : decode b_Model_round 169 = .ok (.iaload, 1) := by decide +kernel
theorem d_Model_round_170 : decode b_Model_round 170 = .ok (.iaload, 1) := by decide +kernel
theorem d_Model_round_171 : decode b_Model_round 171 = .ok (.invokevirtual 144, 3) := by decide +kernel
theorem d_Model_round_174 : decode b_Model_round 174 = .ok (.return_, 1) := by decide +kernel
theorem d_Model_enter_0 : decode b_Model_enter 0 = .ok (.aload_n 0, 1) := by decide +kernel
theorem d_Model_enter_1 : decode b_Model_enter 1 = .ok (.iconst 1, 1) := by decide +kernel
theorem d_Model_enter_2 : decode b_Model_enter 2 = .ok (.iload_n 1, 1) := by decide +kernel
theorem d_Model_enter_3 : decode b_Model_enter 3 = .ok (.iconst 0, 1) := by decide +kernel
theorem d_Model_enter_4 : decode b_Model_enter 4 = .ok (.invokevirtual 109, 3) := by decide +kernel
theorem d_Model_enter_7 : decode b_Model_enter 7 = .ok (.aload_n 0, 1) := by decide +kernel
theorem d_Model_enter_8 : decode b_Model_enter 8 = .ok (.getfield 135, 3) := by decide +kernel
theorem d_Model_enter_11 : decode b_Model_enter 11 = .ok (.istore_n 2, 1) := by decide +kernel
theorem d_Model_enter_12 : decode b_Model_enter 12 = .ok (.aload_n 0, 1) := by decide +kernel
theorem d_Model_enter_13 : decode b_Model_enter 13 = .ok (.getfield 51, 3) := by decide +kernel
theorem d_Model_enter_16 : decode b_Model_enter 16 = .ok (.iload_n 2, 1) := by decide +kernel
theorem d_Model_enter_17 : decode b_Model_enter 17 = .ok (.iload_n 1, 1) := by decide +kernel
theorem d_Model_enter_18 : decode b_Model_enter 18 = .ok (.iastore, 1) := by decide +kernel
theorem d_Model_enter_19 : decode b_Model_enter 19 = .ok (.aload_n 0, 1) := by decide +kernel
theorem d_Model_enter_20 : decode b_Model_enter 20 = .ok (.getfield 54, 3) := by decide +kernel
theorem d_Model_enter_23 : decode b_Model_enter 23 = .ok (.iload_n 2, 1) := by decide +kernel
theorem d_Model_enter_24 : decode b_Model_enter 24 = .ok (.iconst (-1), 1) := by decide +kernel
theorem d_Model_enter_25 : decode b_Model_enter 25 = .ok (.iastore, 1) := by decide +kernel
theorem d_Model_enter_26 : decode b_Model_enter 26 = .ok (.aload_n 0, 1) := by decide +kernel
theorem d_Model_enter_27 : decode b_Model_enter 27 = .ok (.dup, 1) := by decide +kernel
theorem d_Model_enter_28 : decode b_Model_enter 28 = .ok (.getfield 135, 3) := by decide +kernel
theorem d_Model_enter_31 : decode b_Model_enter 31 = .ok (.iconst 1, 1) := by decide +kernel
theorem d_Model_enter_32 : decode b_Model_enter 32 = .ok (.iadd, 1) := by decide +kernel
theorem d_Model_enter_33 : decode b_Model_enter 33 = .ok (.putfield 135, 3) := by decide +kernel
theorem d_Model_enter_36 : decode b_Model_enter 36 = .ok (.aload_n 0, 1) := by decide +kernel
theorem d_Model_enter_37 : decode b_Model_enter 37 = .ok (.getfield 25, 3) := by decide +kernel
theorem d_Model_enter_40 : decode b_Model_enter 40 = .ok (.iload_n 1, 1) := by decide +kernel
theorem d_Model_enter_41 : decode b_Model_enter 41 = .ok (.baload, 1) := by decide +kernel
theorem d_Model_enter_42 : decode b_Model_enter 42 = .ok (.ifCond .eq 23, 3) := by decide +kernel
theorem d_Model_enter_45 : decode b_Model_enter 45 = .ok (.aload_n 0, 1) := by decide +kernel
theorem d_Model_enter_46 : decode b_Model_enter 46 = .ok (.dup, 1) := by decide +kernel
theorem d_Model_enter_47 : decode b_Model_enter 47 = .ok (.getfield 138, 3) := by decide +kernel
theorem d_Model_enter_50 : decode b_Model_enter 50 = .ok (.iconst 1, 1) := by decide +kernel
theorem d_Model_enter_51 : decode b_Model_enter 51 = .ok (.iadd, 1) := by decide +kernel
theorem d_Model_enter_52 : decode b_Model_enter 52 = .ok (.putfield 138, 3) := by decide +kernel
theorem d_Model_enter_55 : decode b_Model_enter 55 = .ok (.aload_n 0, 1) := by decide +kernel
theorem d_Model_enter_56 : decode b_Model_enter 56 = .ok (.getfield 57, 3) := by decide +kernel
theorem d_Model_enter_59 : decode b_Model_enter 59 = .ok (.iload_n 1, 1) := by decide +kernel
theorem d_Model_enter_60 : decode b_Model_enter 60 = .ok (.aload_n 0, 1) := by decide +kernel
theorem d_Model_enter_61 : decode b_Model_enter 61 = .ok (.getfield 138, 3) := by decide +kernel
theorem d_Model_enter_64 : decode b_Model_enter 64 = .ok (.iastore, 1) := by decide +kernel
theorem d_Model_enter_65 : decode b_Model_enter 65 = .ok (.aload_n 0, 1) := by decide +kernel
theorem d_Model_enter_66 : decode b_Model_enter 66 = .ok (.getfield 66, 3) := by decide +kernel
theorem d_Model_enter_69 : decode b_Model_enter 69 = .ok (.iload_n 2, 1) := by decide +kernel
theorem d_Model_enter_70 : decode b_Model_enter 70 = .ok (.iconst 0, 1) := by decide +kernel
theorem d_Model_enter_71 : decode b_Model_enter 71 = .ok (.iastore, 1) := by decide +kernel
theorem d_Model_enter_72 : decode b_Model_enter 72 = .ok (.aload_n 0, 1) := by decide +kernel
theorem d_Model_enter_73 : decode b_Model_enter 73 = .ok (.iload_n 1, 1) := by decide +kernel
theorem d_Model_enter_74 : decode b_Model_enter 74 = .ok (.iconst 0, 1) := by decide +kernel
theorem d_Model_enter_75 : decode b_Model_enter 75 = .ok (.iload_n 2, 1) := by decide +kernel
theorem d_Model_enter_76 : decode b_Model_enter 76 = .ok (.invokevirtual 141, 3) := by decide +kernel
theorem d_Model_enter_79 : decode b_Model_enter 79 = .ok (.return_, 1) := by decide +kernel
theorem d_Model_leave_0 : decode b_Model_leave 0 = .ok (.aload_n 0, 1) := by decide +kernel
theorem d_Model_leave_1 : decode b_Model_leave 1 = .ok (.getfield 135, 3) := by decide +kernel
theorem d_Model_leave_4 : decode b_Model_leave 4 = .ok (.iconst 1, 1) := by decide +kernel
theorem d_Model_leave_5 : decode b_Model_leave 5 = .ok (.isub, 1) := by decide +kernel
theorem d_Model_leave_6 : decode b_Model_leave 6 = .ok (.istore_n 1, 1) := by decide +kernel
theorem d_Model_leave_7 : decode b_Model_leave 7 = .ok (.aload_n 0, 1) := by decide +kernel
theorem d_Model_leave_8 : decode b_Model_leave 8 = .ok (.getfield 51, 3) := by decide +kernel
theorem d_Model_leave_11 : decode b_Model_leave 11 = .ok (.iload_n 1, 1) := by decide +kernel
theorem d_Model_leave_12 : decode b_Model_leave 12 = .ok (.iaload, 1) := by decide +kernel
theorem d_Model_leave_13 : decode b_Model_leave 13 = .ok (.istore_n 2, 1) := by decide +kernel
theorem d_Model_leave_14 : decode b_Model_leave 14 = .ok (.aload_n 0, 1) := by decide +kernel
theorem d_Model_leave_15 : decode b_Model_leave 15 = .ok (.iload_n 2, 1) := by decide +kernel
theorem d_Model_leave_16 : decode b_Model_leave 16 = .ok (.iconst 3, 1) := by decide +kernel
theorem d_Model_leave_17 : decode b_Model_leave 17 = .ok (.iload_n 1, 1) := by decide +kernel
theorem d_Model_leave_18 : decode b_Model_leave 18 = .ok (.invokevirtual 141, 3) := by decide +kernel
theorem d_Model_leave_21 : decode b_Model_leave 21 = .ok (.aload_n 0, 1) := by decide +kernel
theorem d_Model_leave_22 : decode b_Model_leave 22 = .ok (.iload_n 2, 1) := by decide +kernel
theorem d_Model_leave_23 : decode b_Model_leave 23 = .ok (.iconst 0, 1) := by decide +kernel
theorem d_Model_leave_24 : decode b_Model_leave 24 = .ok (.iload_n 1, 1) := by decide +kernel
theorem d_Model_leave_25 : decode b_Model_leave 25 = .ok (.aload_n 0, 1) := by decide +kernel
theorem d_Model_leave_26 : decode b_Model_leave 26 = .ok (.getfield 25, 3) := by decide +kernel
theorem d_Model_leave_29 : decode b_Model_leave 29 = .ok (.iload_n 2, 1) := by decide +kernel
theorem d_Model_leave_30 : decode b_Model_leave 30 = .ok (.baload, 1) := by decide +kernel
theorem d_Model_leave_31 : decode b_Model_leave 31 = .ok (.ifCond .eq 12, 3) := by decide +kernel
theorem d_Model_leave_34 : decode b_Model_leave 34 = .ok (.aload_n 0, 1) := by decide +kernel
theorem d_Model_leave_35 : decode b_Model_leave 35 = .ok (.getfield 57, 3) := by decide +kernel
theorem d_Model_leave_38 : decode b_Model_leave 38 = .ok (.iload_n 2, 1) := by decide +kernel
theorem d_Model_leave_39 : decode b_Model_leave 39 = .ok (.iaload, 1) := by decide +kernel
theorem d_Model_leave_40 : decode b_Model_leave 40 = .ok (.goto 4, 3) := by decide +kernel
theorem d_Model_leave_43 : decode b_Model_leave 43 = .ok (.iconst 0, 1) := by decide +kernel
theorem d_Model_leave_44 : decode b_Model_leave 44 = .ok (.invokevirtual 144, 3) := by decide +kernel
theorem d_Model_leave_47 : decode b_Model_leave 47 = .ok (.aload_n 0, 1) := by decide +kernel
theorem d_Model_leave_48 : decode b_Model_leave 48 = .ok (.dup, 1) := by decide +kernel
theorem d_Model_leave_49 : decode b_Model_leave 49 = .ok (.getfield 135, 3) := by decide +kernel
theorem d_Model_leave_52 : decode b_Model_leave 52 = .ok (.iconst 1, 1) := by decide +kernel
theorem d_Model_leave_53 : decode b_Model_leave 53 = .ok (.isub, 1) := by decide +kernel
theorem d_Model_leave_54 : decode b_Model_leave 54 = .ok (.putfield 135, 3) := by decide +kernel
theorem d_Model_leave_57 : decode b_Model_leave 57 = .ok (.return_, 1) := by decide +kernel
theorem d_Model_doNode_0 : decode b_Model_doNode 0 = .ok (.aload_n 0, 1) := by decide +kernel
theorem d_Model_doNode_1 : decode b_Model_doNode 1 = .ok (.getfield 32, 3) := by decide +kernel
theorem d_Model_doNode_4 : decode b_Model_doNode 4 = .ok (.iload_n 1, 1) := by decide +kernel
theorem d_Model_doNode_5 : decode b_Model_doNode 5 = .ok (.baload, 1) := by decide +kernel
theorem d_Model_doNode_6 : decode b_Model_doNode 6 = .ok (.ifCond .ne 4, 3) := by decide +kernel
theorem d_Model_doNode_9 : decode b_Model_doNode 9 = .ok (.return_, 1) := by decide +kernel
theorem d_Model_doNode_10 : decode b_Model_doNode 10 = .ok (.aload_n 0, 1) := by decide +kernel
theorem d_Model_doNode_11 : decode b_Model_doNode 11 = .ok (.getfield 29, 3) := by decide +kernel
theorem d_Model_doNode_14 : decode b_Model_doNode 14 = .ok (.iload_n 1, 1) := by decide +kernel
theorem d_Model_doNode_15 : decode b_Model_doNode 15 = .ok (.baload, 1) := by decide +kernel
theorem d_Model_doNode_16 : decode b_Model_doNode 16 = .ok (.ifCond .ne 10, 3) := by decide +kernel
theorem d_Model_doNode_19 : decode b_Model_doNode 19 = .ok (.aload_n 0, 1) := by decide +kernel
theorem d_Model_doNode_20 : decode b_Model_doNode 20 = .ok (.invokevirtual 148, 3) := by decide +kernel
theorem d_Model_doNode_23 : decode b_Model_doNode 23 = .ok (.ifCond .eq 11, 3) := by decide +kernel
theorem d_Model_doNode_26 : decode b_Model_doNode 26 = .ok (.aload_n 0, 1) := by decide +kernel
theorem d_Model_doNode_27 : decode b_Model_doNode 27 = .ok (.iconst 3, 1) := by decide +kernel
theorem d_Model_doNode_28 : decode b_Model_doNode 28 = .ok (.iload_n 1, 1) := by decide +kernel
theorem d_Model_doNode_29 : decode b_Model_doNode 29 = .ok (.iconst 0, 1) := by decide +kernel
theorem d_Model_doNode_30 : decode b_Model_doNode 30 = .ok (.invokevirtual 109, 3) := by decide +kernel
theorem d_Model_doNode_33 : decode b_Model_doNode 33 = .ok (.return_, 1) := by decide +kernel
theorem d_Model_doNode_34 : decode b_Model_doNode 34 = .ok (.aload_n 0, 1) := by decide +kernel
theorem d_Model_doNode_35 : decode b_Model_doNode 35 = .ok (.getfield 16, 3) := by decide +kernel
theorem d_Model_doNode_38 : decode b_Model_doNode 38 = .ok (.iload_n 1, 1) := by decide +kernel
theorem d_Model_doNode_39 : decode b_Model_doNode 39 = .ok (.iaload, 1) := by decide +kernel
theorem d_Model_doNode_40 : decode b_Model_doNode 40 = .ok (.ifCond .ne 9, 3) := by decide +kernel
theorem d_Model_doNode_43 : decode b_Model_doNode 43 = .ok (.aload_n 0, 1) := by decide +kernel
theorem d_Model_doNode_44 : decode b_Model_doNode 44 = .ok (.iload_n 1, 1) := by decide +kernel
theorem d_Model_doNode_45 : decode b_Model_doNode 45 = .ok (.invokevirtual 152, 3) := by decide +kernel
theorem d_Model_doNode_48 : decode b_Model_doNode 48 = .ok (.return_, 1) := by decide +kernel
theorem d_Model_doNode_49 : decode b_Model_doNode 49 = .ok (.iconst 0, 1) := by decide +kernel
theorem d_Model_doNode_50 : decode b_Model_doNode 50 = .ok (.istore_n 2, 1) := by decide +kernel
theorem d_Model_doNode_51 : decode b_Model_doNode 51 = .ok (.iload_n 2, 1) := by decide +kernel
theorem d_Model_doNode_52 : decode b_Model_doNode 52 = .ok (.aload_n 0, 1) := by decide +kernel
theorem d_Model_doNode_53 : decode b_Model_doNode 53 = .ok (.getfield 16, 3) := by decide +kernel
theorem d_Model_doNode_56 : decode b_Model_doNode 56 = .ok (.iload_n 1, 1) := by decide +kernel
theorem d_Model_doNode_57 : decode b_Model_doNode 57 = .ok (.iaload, 1) := by decide +kernel
theorem d_Model_doNode_58 : decode b_Model_doNode 58 = .ok (.if_icmp .ge 34, 3) := by decide +kernel
theorem d_Model_doNode_61 : decode b_Model_doNode 61 = .ok (.iload_n 2, 1) := by decide +kernel
theorem d_Model_doNode_62 : decode b_Model_doNode 62 = .ok (.ifCond .le 18, 3) := by decide +kernel
theorem d_Model_doNode_65 : decode b_Model_doNode 65 = .ok (.aload_n 0, 1) := by decide +kernel
theorem d_Model_doNode_66 : decode b_Model_doNode 66 = .ok (.invokevirtual 148, 3) := by decide +kernel
theorem d_Model_doNode_69 : decode b_Model_doNode 69 = .ok (.ifCond .eq 11, 3) := by decide +kernel
theorem d_Model_doNode_72 : decode b_Model_doNode 72 = .ok (.aload_n 0, 1) := by decide +kernel
theorem d_Model_doNode_73 : decode b_Model_doNode 73 = .ok (.iconst 3, 1) := by decide +kernel
theorem d_Model_doNode_74 : decode b_Model_doNode 74 = .ok (.iload_n 1, 1) := by decide +kernel
theorem d_Model_doNode_75 : decode b_Model_doNode 75 = .ok (.iload_n 2, 1) := by decide +kernel
theorem d_Model_doNode_76 : decode b_Model_doNode 76 = .ok (.invokevirtual 109, 3) := by decide +kernel
theorem d_Model_doNode_79 : decode b_Model_doNode 79 = .ok (.return_, 1) := by decide +kernel
theorem d_Model_doNode_80 : decode b_Model_doNode 80 = .ok (.aload_n 0, 1) := by decide +kernel
theorem d_Model_doNode_81 : decode b_Model_doNode 81 = .ok (.iload_n 1, 1) := by decide +kernel
theorem d_Model_doNode_82 : decode b_Model_doNode 82 = .ok (.iload_n 2, 1) := by decide +kernel
theorem d_Model_doNode_83 : decode b_Model_doNode 83 = .ok (.invokevirtual 156, 3) := by decide +kernel
theorem d_Model_doNode_86 : decode b_Model_doNode 86 = .ok (.iinc 2 1, 3) := by decide +kernel
theorem d_Model_doNode_89 : decode b_Model_doNode 89 = .ok (.goto (-38), 3) := by decide +kernel
theorem d_Model_doNode_92 : decode b_Model_doNode 92 = .ok (.return_, 1) := by decide +kernel
theorem d_Model_before_0 : decode b_Model_before 0 = .ok (.aload_n 0, 1) := by decide +kernel
theorem d_Model_before_1 : decode b_Model_before 1 = .ok (.getfield 13, 3) := by decide +kernel
theorem d_Model_before_4 : decode b_Model_before 4 = .ok (.iload_n 1, 1) := by decide +kernel
theorem d_Model_before_5 : decode b_Model_before 5 = .ok (.iaload, 1) := by decide +kernel
theorem d_Model_before_6 : decode b_Model_before 6 = .ok (.aload_n 0, 1) := by decide +kernel
theorem d_Model_before_7 : decode b_Model_before 7 = .ok (.getfield 13, 3) := by decide +kernel
theorem d_Model_before_10 : decode b_Model_before 10 = .ok (.iload_n 2, 1) := by decide +kernel
theorem d_Model_before_11 : decode b_Model_before 11 = .ok (.iaload, 1) := by decide +kernel
theorem d_Model_before_12 : decode b_Model_before 12 = .ok (.if_icmp .lt 23, 3) := by decide +kernel
theorem d_Model_before_15 : decode b_Model_before 15 = .ok (.aload_n 0, 1) := by decide +kernel
theorem d_Model_before_16 : decode b_Model_before 16 = .ok (.getfield 13, 3) := by decide +kernel
theorem d_Model_before_19 : decode b_Model_before 19 = .ok (.iload_n 1, 1) := by decide +kernel
theorem d_Model_before_20 : decode b_Model_before 20 = .ok (.iaload, 1) := by decide +kernel
theorem d_Model_before_21 : decode b_Model_before 21 = .ok (.aload_n 0, 1) := by decide +kernel
theorem d_Model_before_22 : decode b_Model_before 22 = .ok (.getfield 13, 3) := by decide +kernel
theorem d_Model_before_25 : decode b_Model_before 25 = .ok (.iload_n 2, 1) := by decide +kernel
theorem d_Model_before_26 : decode b_Model_before 26 = .ok (.iaload, 1) := by decide +kernel
theorem d_Model_before_27 : decode b_Model_before 27 = .ok (.if_icmp .ne 12, 3) := by decide +kernel
theorem d_Model_before_30 : decode b_Model_before 30 = .ok (.iload_n 1, 1) := by decide +kernel
theorem d_Model_before_31 : decode b_Model_before 31 = .ok (.iload_n 2, 1) := by decide +kernel
theorem d_Model_before_32 : decode b_Model_before 32 = .ok (.if_icmp .ge 7, 3) := by decide +kernel
theorem d_Model_before_35 : decode b_Model_before 35 = .ok (.iconst 1, 1) := by decide +kernel
theorem d_Model_before_36 : decode b_Model_before 36 = .ok (.goto 4, 3) := by decide +kernel
theorem d_Model_before_39 : decode b_Model_before 39 = .ok (.iconst 0, 1) := by decide +kernel
theorem d_Model_before_40 : decode b_Model_before 40 = .ok (.ireturn, 1) := by decide +kernel
theorem d_Model_nextChild_0 : decode b_Model_nextChild 0 = .ok (.aload_n 0, 1) := by decide +kernel
theorem d_Model_nextChild_1 : decode b_Model_nextChild 1 = .ok (.getfield 51, 3) := by decide +kernel
theorem d_Model_nextChild_4 : decode b_Model_nextChild 4 = .ok (.aload_n 0, 1) := by decide +kernel
theorem d_Model_nextChild_5 : decode b_Model_nextChild 5 = .ok (.getfield 135, 3) := by decide +kernel
theorem d_Model_nextChild_8 : decode b_Model_nextChild 8 = .ok (.iconst 1, 1) := by decide +kernel
theorem d_Model_nextChild_9 : decode b_Model_nextChild 9 = .ok (.isub, 1) := by decide +kernel
theorem d_Model_nextChild_10 : decode b_Model_nextChild 10 = .ok (.iaload, 1) := by decide +kernel
theorem d_Model_nextChild_11 : decode b_Model_nextChild 11 = .ok (.istore_n 1, 1) := by decide +kernel
theorem d_Model_nextChild_12 : decode b_Model_nextChild 12 = .ok (.aload_n 0, 1) := by decide +kernel
theorem d_Model_nextChild_13 : decode b_Model_nextChild 13 = .ok (.getfield 54, 3) := by decide +kernel
theorem d_Model_nextChild_16 : decode b_Model_nextChild 16 = .ok (.aload_n 0, 1) := by decide +kernel
theorem d_Model_nextChild_17 : decode b_Model_nextChild 17 = .ok (.getfield 135, 3) := by decide +kernel
theorem d_Model_nextChild_20 : decode b_Model_nextChild 20 = .ok (.iconst 1, 1) := by decide +kernel
theorem d_Model_nextChild_21 : decode b_Model_nextChild 21 = .ok (.isub, 1) := by decide +kernel
theorem d_Model_nextChild_22 : decode b_Model_nextChild 22 = .ok (.iaload, 1) := by decide +kernel
theorem d_Model_nextChild_23 : decode b_Model_nextChild 23 = .ok (.istore_n 2, 1) := by decide +kernel
theorem d_Model_nextChild_24 : decode b_Model_nextChild 24 = .ok (.iconst (-1), 1) := by decide +kernel
theorem d_Model_nextChild_25 : decode b_Model_nextChild 25 = .ok (.istore_n 3, 1) := by decide +kernel
theorem d_Model_nextChild_26 : decode b_Model_nextChild 26 = .ok (.iconst 1, 1) := by decide +kernel
theorem d_Model_nextChild_27 : decode b_Model_nextChild 27 = .ok (.istore 4, 2) := by decide +kernel
theorem d_Model_nextChild_29 : decode b_Model_nextChild 29 = .ok (.iload 4, 2) := by decide +kernel
theorem d_Model_nextChild_31 : decode b_Model_nextChild 31 = .ok (.aload_n 0, 1) := by decide +kernel
theorem d_Model_nextChild_32 : decode b_Model_nextChild 32 = .ok (.getfield 47, 3) := by decide +kernel
theorem d_Model_nextChild_35 : decode b_Model_nextChild 35 = .ok (.if_icmp .ge 54, 3) := by decide +kernel
theorem d_Model_nextChild_38 : decode b_Model_nextChild 38 = .ok (.aload_n 0, 1) := by decide +kernel
theorem d_Model_nextChild_39 : decode b_Model_nextChild 39 = .ok (.getfield 7, 3) := by decide +kernel
theorem d_Model_nextChild_42 : decode b_Model_nextChild 42 = .ok (.iload 4, 2) := by decide +kernel
theorem d_Model_nextChild_44 : decode b_Model_nextChild 44 = .ok (.iaload, 1) := by decide +kernel
theorem d_Model_nextChild_45 : decode b_Model_nextChild 45 = .ok (.iload_n 1, 1) := by decide +kernel
theorem d_Model_nextChild_46 : decode b_Model_nextChild 46 = .ok (.if_icmp .ne 37, 3) := by decide +kernel
theorem d_Model_nextChild_49 : decode b_Model_nextChild 49 = .ok (.iload_n 2, 1) := by decide +kernel
theorem d_Model_nextChild_50 : decode b_Model_nextChild 50 = .ok (.ifCond .lt 16, 3) := by decide +kernel
theorem d_Model_nextChild_53 : decode b_Model_nextChild 53 = .ok (.aload_n 0, 1) := by decide +kernel
theorem d_Model_nextChild_54 : decode b_Model_nextChild 54 = .ok (.iload_n 2, 1) := by decide +kernel
theorem d_Model_nextChild_55 : decode b_Model_nextChild 55 = .ok (.iload 4, 2) := by decide +kernel
theorem d_Model_nextChild_57 : decode b_Model_nextChild 57 = .ok (.invokevirtual 160, 3) := by decide +kernel
theorem d_Model_nextChild_60 : decode b_Model_nextChild 60 = .ok (.ifCond .ne 6, 3) := by decide +kernel
theorem d_Model_nextChild_63 : decode b_Model_nextChild 63 = .ok (.goto 20, 3) := by decide +kernel
theorem d_Model_nextChild_66 : decode b_Model_nextChild 66 = .ok (.iload_n 3, 1) := by decide +kernel
theorem d_Model_nextChild_67 : decode b_Model_nextChild 67 = .ok (.ifCond .lt 13, 3) := by decide +kernel
theorem d_Model_nextChild_70 : decode b_Model_nextChild 70 = .ok (.aload_n 0, 1) := by decide +kernel
theorem d_Model_nextChild_71 : decode b_Model_nextChild 71 = .ok (.iload 4, 2) := by decide +kernel
theorem d_Model_nextChild_73 : decode b_Model_nextChild 73 = .ok (.iload_n 3, 1) := by decide +kernel
theorem d_Model_nextChild_74 : decode b_Model_nextChild 74 = .ok (.invokevirtual 160, 3) := by decide +kernel
theorem d_Model_nextChild_77 : decode b_Model_nextChild 77 = .ok (.ifCond .eq 6, 3) := by decide +kernel
theorem d_Model_nextChild_80 : decode b_Model_nextChild 80 = .ok (.iload 4, 2) := by decide +kernel
theorem d_Model_nextChild_82 : decode b_Model_nextChild 82 = .ok (.istore_n 3, 1) := by decide +kernel
theorem d_Model_nextChild_83 : decode b_Model_nextChild 83 = .ok (.iinc 4 1, 3) := by decide +kernel
theorem d_Model_nextChild_86 : decode b_Model_nextChild 86 = .ok (.goto (-57), 3) := by decide +kernel
theorem d_Model_nextChild_89 : decode b_Model_nextChild 89 = .ok (.iload_n 3, 1) := by decide +kernel
theorem d_Model_nextChild_90 : decode b_Model_nextChild 90 = .ok (.ireturn, 1) := by decide +kernel
theorem d_Model_run_0 : decode b_Model_run 0 = .ok (.iload_n 1, 1) := by decide +kernel
theorem d_Model_run_1 : decode b_Model_run 1 = .ok (.ifCond .lt 31, 3) := by decide +kernel
theorem d_Model_run_4 : decode b_Model_run 4 = .ok (.iload_n 1, 1) := by decide +kernel
theorem d_Model_run_5 : decode b_Model_run 5 = .ok (.sipush 255, 3) := by decide +kernel
theorem d_Model_run_8 : decode b_Model_run 8 = .ok (.if_icmp .gt 24, 3) := by decide +kernel
theorem d_Model_run_11 : decode b_Model_run 11 = .ok (.iload_n 2, 1) := by decide +kernel
theorem d_Model_run_12 : decode b_Model_run 12 = .ok (.ifCond .lt 20, 3) := by decide +kernel
theorem d_Model_run_15 : decode b_Model_run 15 = .ok (.iload_n 2, 1) := by decide +kernel
theorem d_Model_run_16 : decode b_Model_run 16 = .ok (.sipush 255, 3) := by decide +kernel
theorem d_Model_run_19 : decode b_Model_run 19 = .ok (.if_icmp .gt 13, 3) := by decide +kernel
theorem d_Model_run_22 : decode b_Model_run 22 = .ok (.iload_n 3, 1) := by decide +kernel
theorem d_Model_run_23 : decode b_Model_run 23 = .ok (.ifCond .lt 9, 3) := by decide +kernel
theorem d_Model_run_26 : decode b_Model_run 26 = .ok (.iload_n 3, 1) := by decide +kernel
theorem d_Model_run_27 : decode b_Model_run 27 = .ok (.bipush 9, 2) := by decide +kernel
theorem d_Model_run_29 : decode b_Model_run 29 = .ok (.if_icmp .le 5, 3) := by decide +kernel
theorem d_Model_run_32 : decode b_Model_run 32 = .ok (.iconst (-1), 1) := by decide +kernel
theorem d_Model_run_33 : decode b_Model_run 33 = .ok (.ireturn, 1) := by decide +kernel
theorem d_Model_run_34 : decode b_Model_run 34 = .ok (.aload_n 0, 1) := by decide +kernel
theorem d_Model_run_35 : decode b_Model_run 35 = .ok (.aload_n 0, 1) := by decide +kernel
theorem d_Model_run_36 : decode b_Model_run 36 = .ok (.aload_n 0, 1) := by decide +kernel
theorem d_Model_run_37 : decode b_Model_run 37 = .ok (.aload_n 0, 1) := by decide +kernel
theorem d_Model_run_38 : decode b_Model_run 38 = .ok (.aload_n 0, 1) := by decide +kernel
theorem d_Model_run_39 : decode b_Model_run 39 = .ok (.aload_n 0, 1) := by decide +kernel
theorem d_Model_run_40 : decode b_Model_run 40 = .ok (.aload_n 0, 1) := by decide +kernel
theorem d_Model_run_41 : decode b_Model_run 41 = .ok (.aload_n 0, 1) := by decide +kernel
theorem d_Model_run_42 : decode b_Model_run 42 = .ok (.aload_n 0, 1) := by decide +kernel
theorem d_Model_run_43 : decode b_Model_run 43 = .ok (.aload_n 0, 1) := by decide +kernel
theorem d_Model_run_44 : decode b_Model_run 44 = .ok (.aload_n 0, 1) := by decide +kernel
theorem d_Model_run_45 : decode b_Model_run 45 = .ok (.iconst 0, 1) := by decide +kernel
theorem d_Model_run_46 : decode b_Model_run 46 = .ok (.dup_x1, 1) := by decide +kernel
theorem d_Model_run_47 : decode b_Model_run 47 = .ok (.putfield 135, 3) := by decide +kernel
theorem d_Model_run_50 : decode b_Model_run 50 = .ok (.dup_x1, 1) := by decide +kernel
theorem d_Model_run_51 : decode b_Model_run 51 = .ok (.putfield 90, 3) := by decide +kernel
theorem d_Model_run_54 : decode b_Model_run 54 = .ok (.dup_x1, 1) := by decide +kernel
theorem d_Model_run_55 : decode b_Model_run 55 = .ok (.putfield 120, 3) := by decide +kernel
theorem d_Model_run_58 : decode b_Model_run 58 = .ok (.dup_x1, 1) := by decide +kernel
theorem d_Model_run_59 : decode b_Model_run 59 = .ok (.putfield 106, 3) := by decide +kernel
theorem d_Model_run_62 : decode b_Model_run 62 = .ok (.dup_x1, 1) := by decide +kernel
theorem d_Model_run_63 : decode b_Model_run 63 = .ok (.putfield 129, 3) := by decide +kernel
theorem d_Model_run_66 : decode b_Model_run 66 = .ok (.dup_x1, 1) := by decide +kernel
theorem d_Model_run_67 : decode b_Model_run 67 = .ok (.putfield 126, 3) := by decide +kernel
theorem d_Model_run_70 : decode b_Model_run 70 = .ok (.dup_x1, 1) := by decide +kernel
theorem d_Model_run_71 : decode b_Model_run 71 = .ok (.putfield 123, 3) := by decide +kernel
theorem d_Model_run_74 : decode b_Model_run 74 = .ok (.dup_x1, 1) := by decide +kernel
theorem d_Model_run_75 : decode b_Model_run 75 = .ok (.putfield 138, 3) := by decide +kernel
theorem d_Model_run_78 : decode b_Model_run 78 = .ok (.dup_x1, 1) := by decide +kernel
theorem d_Model_run_79 : decode b_Model_run 79 = .ok (.putfield 93, 3) := by decide +kernel
theorem d_Model_run_82 : decode b_Model_run 82 = .ok (.dup_x1, 1) := by decide +kernel
theorem d_Model_run_83 : decode b_Model_run 83 = .ok (.putfield 96, 3) := by decide +kernel
theorem d_Model_run_86 : decode b_Model_run 86 = .ok (.putfield 103, 3) := by decide +kernel
theorem d_Model_run_89 : decode b_Model_run 89 = .ok (.aload_n 0, 1) := by decide +kernel
theorem d_Model_run_90 : decode b_Model_run 90 = .ok (.iconst 0, 1) := by decide +kernel
theorem d_Model_run_91 : decode b_Model_run 91 = .ok (.putfield 116, 3) := by decide +kernel
theorem d_Model_run_94 : decode b_Model_run 94 = .ok (.aload_n 0, 1) := by decide +kernel
theorem d_Model_run_95 : decode b_Model_run 95 = .ok (.iload_n 3, 1) := by decide +kernel
theorem d_Model_run_96 : decode b_Model_run 96 = .ok (.putfield 132, 3) := by decide +kernel
theorem d_Model_run_99 : decode b_Model_run 99 = .ok (.aload_n 0, 1) := by decide +kernel
theorem d_Model_run_100 : decode b_Model_run 100 = .ok (.iload_n 1, 1) := by decide +kernel
theorem d_Model_run_101 : decode b_Model_run 101 = .ok (.iload_n 2, 1) := by decide +kernel
theorem d_Model_run_102 : decode b_Model_run 102 = .ok (.invokevirtual 164, 3) := by decide +kernel
theorem d_Model_run_105 : decode b_Model_run 105 = .ok (.aload_n 0, 1) := by decide +kernel
theorem d_Model_run_106 : decode b_Model_run 106 = .ok (.getfield 90, 3) := by decide +kernel
theorem d_Model_run_109 : decode b_Model_run 109 = .ok (.ifCond .ne 5, 3) := by decide +kernel
theorem d_Model_run_112 : decode b_Model_run 112 = .ok (.iconst 0, 1) := by decide +kernel
theorem d_Model_run_113 : decode b_Model_run 113 = .ok (.ireturn, 1) := by decide +kernel
theorem d_Model_run_114 : decode b_Model_run 114 = .ok (.aload_n 0, 1) := by decide +kernel
theorem d_Model_run_115 : decode b_Model_run 115 = .ok (.iconst 0, 1) := by decide +kernel
theorem d_Model_run_116 : decode b_Model_run 116 = .ok (.invokevirtual 167, 3) := by decide +kernel
theorem d_Model_run_119 : decode b_Model_run 119 = .ok (.iconst 0, 1) := by decide +kernel
theorem d_Model_run_120 : decode b_Model_run 120 = .ok (.istore 4, 2) := by decide +kernel
theorem d_Model_run_122 : decode b_Model_run 122 = .ok (.iload 4, 2) := by decide +kernel
theorem d_Model_run_124 : decode b_Model_run 124 = .ok (.sipush 1000, 3) := by decide +kernel
theorem d_Model_run_127 : decode b_Model_run 127 = .ok (.if_icmp .ge 71, 3) := by decide +kernel
theorem d_Model_run_130 : decode b_Model_run 130 = .ok (.aload_n 0, 1) := by decide +kernel
theorem d_Model_run_131 : decode b_Model_run 131 = .ok (.getfield 135, 3) := by decide +kernel
theorem d_Model_run_134 : decode b_Model_run 134 = .ok (.ifCond .le 64, 3) := by decide +kernel
theorem d_Model_run_137 : decode b_Model_run 137 = .ok (.aload_n 0, 1) := by decide +kernel
theorem d_Model_run_138 : decode b_Model_run 138 = .ok (.getfield 66, 3) := by decide +kernel
theorem d_Model_run_141 : decode b_Model_run 141 = .ok (.aload_n 0, 1) := by decide +kernel
theorem d_Model_run_142 : decode b_Model_run 142 = .ok (.getfield 135, 3) := by decide +kernel
theorem d_Model_run_145 : decode b_Model_run 145 = .ok (.iconst 1, 1) := by decide +kernel
theorem d_Model_run_146 : decode b_Model_run 146 = .ok (.isub, 1) := by decide +kernel
theorem d_Model_run_147 : decode b_Model_run 147 = .ok (.iaload, 1) := by decide +kernel
theorem d_Model_run_148 : decode b_Model_run 148 = .ok (.ifCond .ne 10, 3) := by decide +kernel
theorem d_Model_run_151 : decode b_Model_run 151 = .ok (.aload_n 0, 1) := by decide +kernel
theorem d_Model_run_152 : decode b_Model_run 152 = .ok (.invokevirtual 170, 3) := by decide +kernel
theorem d_Model_run_155 : decode b_Model_run 155 = .ok (.goto 4, 3) := by decide +kernel
theorem d_Model_run_158 : decode b_Model_run 158 = .ok (.iconst (-1), 1) := by decide +kernel
theorem d_Model_run_159 : decode b_Model_run 159 = .ok (.istore 5, 2) := by decide +kernel
theorem d_Model_run_161 : decode b_Model_run 161 = .ok (.iload 5, 2) := by decide +kernel
theorem d_Model_run_163 : decode b_Model_run 163 = .ok (.ifCond .ge 10, 3) := by decide +kernel
theorem d_Model_run_166 : decode b_Model_run 166 = .ok (.aload_n 0, 1) := by decide +kernel
theorem d_Model_run_167 : decode b_Model_run 167 = .ok (.invokevirtual 174, 3) := by decide +kernel
theorem d_Model_run_170 : decode b_Model_run 170 = .ok (.goto 22, 3) := by decide +kernel
theorem d_Model_run_173 : decode b_Model_run 173 = .ok (.aload_n 0, 1) := by decide +kernel
theorem d_Model_run_174 : decode b_Model_run 174 = .ok (.getfield 54, 3) := by decide +kernel
theorem d_Model_run_177 : decode b_Model_run 177 = .ok (.aload_n 0, 1) := by decide +kernel
theorem d_Model_run_178 : decode b_Model_run 178 = .ok (.getfield 135, 3) := by decide +kernel
theorem d_Model_run_181 : decode b_Model_run 181 = .ok (.iconst 1, 1) := by decide +kernel
theorem d_Model_run_182 : decode b_Model_run 182 = .ok (.isub, 1) := by decide +kernel
theorem d_Model_run_183 : decode b_Model_run 183 = .ok (.iload 5, 2) := by decide +kernel
theorem d_Model_run_185 : decode b_Model_run 185 = .ok (.iastore, 1) := by decide +kernel
theorem d_Model_run_186 : decode b_Model_run 186 = .ok (.aload_n 0, 1) := by decide +kernel
theorem d_Model_run_187 : decode b_Model_run 187 = .ok (.iload 5, 2) := by decide +kernel
theorem d_Model_run_189 : decode b_Model_run 189 = .ok (.invokevirtual 167, 3) := by decide +kernel
theorem d_Model_run_192 : decode b_Model_run 192 = .ok (.iinc 4 1, 3) := by decide +kernel
theorem d_Model_run_195 : decode b_Model_run 195 = .ok (.goto (-73), 3) := by decide +kernel
theorem d_Model_run_198 : decode b_Model_run 198 = .ok (.aload_n 0, 1) := by decide +kernel
theorem d_Model_run_199 : decode b_Model_run 199 = .ok (.getfield 116, 3) := by decide +kernel
theorem d_Model_run_202 : decode b_Model_run 202 = .ok (.ifCond .eq 7, 3) := by decide +kernel
theorem d_Model_run_205 : decode b_Model_run 205 = .ok (.iconst 1, 1) := by decide +kernel
theorem d_Model_run_206 : decode b_Model_run 206 = .ok (.goto 4, 3) := by decide +kernel
theorem d_Model_run_209 : decode b_Model_run 209 = .ok (.iconst 0, 1) := by decide +kernel
theorem d_Model_run_210 : decode b_Model_run 210 = .ok (.ireturn, 1) := by decide +kernel
theorem d_Model_event_0 : decode b_Model_event 0 = .ok (.iload_n 1, 1) := by decide +kernel
theorem d_Model_event_1 : decode b_Model_event 1 = .ok (.ifCond .lt 28, 3) := by decide +kernel
theorem d_Model_event_4 : decode b_Model_event 4 = .ok (.iload_n 1, 1) := by decide +kernel
theorem d_Model_event_5 : decode b_Model_event 5 = .ok (.aload_n 0, 1) := by decide +kernel
theorem d_Model_event_6 : decode b_Model_event 6 = .ok (.getfield 103, 3) := by decide +kernel
theorem d_Model_event_9 : decode b_Model_event 9 = .ok (.if_icmp .ge 20, 3) := by decide +kernel
theorem d_Model_event_12 : decode b_Model_event 12 = .ok (.iload_n 1, 1) := by decide +kernel
theorem d_Model_event_13 : decode b_Model_event 13 = .ok (.sipush 150, 3) := by decide +kernel
theorem d_Model_event_16 : decode b_Model_event 16 = .ok (.if_icmp .ge 13, 3) := by decide +kernel
theorem d_Model_event_19 : decode b_Model_event 19 = .ok (.iload_n 2, 1) := by decide +kernel
