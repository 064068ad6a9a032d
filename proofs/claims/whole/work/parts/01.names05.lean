set_option maxRecDepth 20000 in
theorem ggX5_resolved_X5_verdict : GoodIn wsX5_resolved wsX5_verdict := goodIn_r _ [21] (by decide +kernel) (by decide +kernel)
set_option maxRecDepth 20000 in
theorem gX5_resolved_X5_verdict : GoodIn wsX5_resolved (va_wsS RX5 97 yX5_verdict wsX5_verdict) := goodIn_app (goodIn_of _ (by decide +kernel)) ggX5_resolved_X5_verdict
set_option maxRecDepth 20000 in
theorem ggX5_resolved_X5_field : GoodIn wsX5_resolved wsX5_field := goodIn_r _ [32, 14, 17, 18, 22, 23, 12, 24, 33, 34, 35, 36, 37, 38, 8, 39, 40, 41, 42, 43, 44, 83, 84, 85, 86, 87, 88, 89, 90, 91, 92, 93, 94, 95, 96, 97, 98, 99, 100, 101, 102, 103] (by decide +kernel) (by decide +kernel)
set_option maxRecDepth 20000 in
theorem gX5_resolved_X5_field : GoodIn wsX5_resolved (wsV RX5 133 RX5 yX5_field wsX5_field) := goodIn_app (goodIn_of _ (by decide +kernel)) ggX5_resolved_X5_field
set_option maxRecDepth 20000 in
theorem ggX5_resolved_X5_find : GoodIn wsX5_resolved wsX5_find := goodIn_r _ [48, 4, 49, 7, 17, 37, 38, 39, 40, 8, 33, 34, 35, 12, 36, 50, 51, 52, 53, 54, 55, 56, 57, 18, 58, 59, 60, 61, 22, 23, 24, 62, 63, 64, 65, 66, 67, 68, 69, 70, 71, 72, 73, 83, 84, 85, 86, 87, 88, 89, 90, 91, 92, 93, 94, 95, 96, 97, 98, 99, 100, 101, 102, 103] (by decide +kernel) (by decide +kernel)
set_option maxRecDepth 20000 in
theorem gX5_resolved_X5_find : GoodIn wsX5_resolved (wsV RX5 136 RX5 yX5_find wsX5_find) := goodIn_app (goodIn_of _ (by decide +kernel)) ggX5_resolved_X5_find
set_option maxRecDepth 20000 in
theorem ggX5_resolved_X5_isOpen : GoodIn wsX5_resolved wsX5_isOpen := goodIn_r _ [77, 8, 49, 5, 7, 78, 79, 80, 12, 81, 82, 16, 58, 59, 60, 61, 17, 22, 23, 24, 66, 67, 68, 69, 54, 55, 56, 57, 18, 83, 84, 85, 86, 87, 88, 89, 90, 91, 92, 93, 94, 95, 96, 97, 98, 99, 100, 101, 102, 103] (by decide +kernel) (by decide +kernel)
set_option maxRecDepth 20000 in
theorem gX5_resolved_X5_isOpen : GoodIn wsX5_resolved (wsV RX5 139 RX5 yX5_isOpen wsX5_isOpen) := goodIn_app (goodIn_of _ (by decide +kernel)) ggX5_resolved_X5_isOpen
set_option maxRecDepth 20000 in
theorem ggX5_resolved_X5_under : GoodIn wsX5_resolved wsX5_under := goodIn_r _ [69, 58, 59, 60, 12, 61, 17, 54, 55, 56, 57, 18, 22, 23, 24, 83, 84, 85, 86, 87, 88, 89, 90, 91, 92, 93, 94, 95, 96, 97, 98, 99, 100, 101, 102, 103] (by decide +kernel) (by decide +kernel)
set_option maxRecDepth 20000 in
theorem gX5_resolved_X5_under : GoodIn wsX5_resolved (wsV RX5 116 RX5 yX5_under wsX5_under) := goodIn_app (goodIn_of _ (by decide +kernel)) ggX5_resolved_X5_under
theorem dX5_resolved_0 : decode cX5_resolved 0 = .ok (.aload_n 0, 1) := by decide +kernel
theorem dX5_resolved_1 : decode cX5_resolved 1 = .ok (.getfield 50, 3) := by decide +kernel
theorem dX5_resolved_4 : decode cX5_resolved 4 = .ok (.iload_n 2, 1) := by decide +kernel
theorem dX5_resolved_5 : decode cX5_resolved 5 = .ok (.iaload, 1) := by decide +kernel
theorem dX5_resolved_6 : decode cX5_resolved 6 = .ok (.istore_n 3, 1) := by decide +kernel
theorem dX5_resolved_7 : decode cX5_resolved 7 = .ok (.aload_n 0, 1) := by decide +kernel
theorem dX5_resolved_8 : decode cX5_resolved 8 = .ok (.getfield 53, 3) := by decide +kernel
theorem dX5_resolved_11 : decode cX5_resolved 11 = .ok (.iload_n 2, 1) := by decide +kernel
theorem dX5_resolved_12 : decode cX5_resolved 12 = .ok (.iaload, 1) := by decide +kernel
theorem dX5_resolved_13 : decode cX5_resolved 13 = .ok (.istore 4, 2) := by decide +kernel
theorem dX5_resolved_15 : decode cX5_resolved 15 = .ok (.aload_n 0, 1) := by decide +kernel
theorem dX5_resolved_16 : decode cX5_resolved 16 = .ok (.getfield 56, 3) := by decide +kernel
theorem dX5_resolved_19 : decode cX5_resolved 19 = .ok (.iload_n 2, 1) := by decide +kernel
theorem dX5_resolved_20 : decode cX5_resolved 20 = .ok (.iaload, 1) := by decide +kernel
theorem dX5_resolved_21 : decode cX5_resolved 21 = .ok (.istore 5, 2) := by decide +kernel
theorem dX5_resolved_23 : decode cX5_resolved 23 = .ok (.bipush 12, 2) := by decide +kernel
theorem dX5_resolved_25 : decode cX5_resolved 25 = .ok (.iload_n 1, 1) := by decide +kernel
theorem dX5_resolved_26 : decode cX5_resolved 26 = .ok (.imul, 1) := by decide +kernel
theorem dX5_resolved_27 : decode cX5_resolved 27 = .ok (.iload 5, 2) := by decide +kernel
theorem dX5_resolved_29 : decode cX5_resolved 29 = .ok (.iadd, 1) := by decide +kernel
theorem dX5_resolved_30 : decode cX5_resolved 30 = .ok (.istore 6, 2) := by decide +kernel
theorem dX5_resolved_32 : decode cX5_resolved 32 = .ok (.aload_n 0, 1) := by decide +kernel
theorem dX5_resolved_33 : decode cX5_resolved 33 = .ok (.iload_n 1, 1) := by decide +kernel
theorem dX5_resolved_34 : decode cX5_resolved 34 = .ok (.iload 4, 2) := by decide +kernel
theorem dX5_resolved_36 : decode cX5_resolved 36 = .ok (.invokevirtual 104, 3) := by decide +kernel
theorem dX5_resolved_39 : decode cX5_resolved 39 = .ok (.istore 7, 2) := by decide +kernel
theorem dX5_resolved_41 : decode cX5_resolved 41 = .ok (.iload 7, 2) := by decide +kernel
theorem dX5_resolved_43 : decode cX5_resolved 43 = .ok (.bipush 64, 2) := by decide +kernel
theorem dX5_resolved_45 : decode cX5_resolved 45 = .ok (.if_icmp .lt 6, 3) := by decide +kernel
theorem dX5_resolved_48 : decode cX5_resolved 48 = .ok (.iload 7, 2) := by decide +kernel
theorem dX5_resolved_50 : decode cX5_resolved 50 = .ok (.ireturn, 1) := by decide +kernel
theorem dX5_resolved_51 : decode cX5_resolved 51 = .ok (.aload_n 0, 1) := by decide +kernel
theorem dX5_resolved_52 : decode cX5_resolved 52 = .ok (.iload_n 1, 1) := by decide +kernel
theorem dX5_resolved_53 : decode cX5_resolved 53 = .ok (.iload 5, 2) := by decide +kernel
theorem dX5_resolved_55 : decode cX5_resolved 55 = .ok (.invokevirtual 104, 3) := by decide +kernel
theorem dX5_resolved_58 : decode cX5_resolved 58 = .ok (.istore 7, 2) := by decide +kernel
theorem dX5_resolved_60 : decode cX5_resolved 60 = .ok (.iload 7, 2) := by decide +kernel
theorem dX5_resolved_62 : decode cX5_resolved 62 = .ok (.bipush 64, 2) := by decide +kernel
theorem dX5_resolved_64 : decode cX5_resolved 64 = .ok (.if_icmp .lt 6, 3) := by decide +kernel
theorem dX5_resolved_67 : decode cX5_resolved 67 = .ok (.iload 7, 2) := by decide +kernel
theorem dX5_resolved_69 : decode cX5_resolved 69 = .ok (.ireturn, 1) := by decide +kernel
theorem dX5_resolved_70 : decode cX5_resolved 70 = .ok (.aload_n 0, 1) := by decide +kernel
theorem dX5_resolved_71 : decode cX5_resolved 71 = .ok (.getfield 13, 3) := by decide +kernel
theorem dX5_resolved_74 : decode cX5_resolved 74 = .ok (.iload 6, 2) := by decide +kernel
theorem dX5_resolved_76 : decode cX5_resolved 76 = .ok (.iaload, 1) := by decide +kernel
theorem dX5_resolved_77 : decode cX5_resolved 77 = .ok (.iconst 1, 1) := by decide +kernel
theorem dX5_resolved_78 : decode cX5_resolved 78 = .ok (.iand, 1) := by decide +kernel
theorem dX5_resolved_79 : decode cX5_resolved 79 = .ok (.ifCond .ne 32, 3) := by decide +kernel
theorem dX5_resolved_82 : decode cX5_resolved 82 = .ok (.aload_n 0, 1) := by decide +kernel
theorem dX5_resolved_83 : decode cX5_resolved 83 = .ok (.getfield 17, 3) := by decide +kernel
theorem dX5_resolved_86 : decode cX5_resolved 86 = .ok (.iload 6, 2) := by decide +kernel
theorem dX5_resolved_88 : decode cX5_resolved 88 = .ok (.iaload, 1) := by decide +kernel
theorem dX5_resolved_89 : decode cX5_resolved 89 = .ok (.aload_n 0, 1) := by decide +kernel
theorem dX5_resolved_90 : decode cX5_resolved 90 = .ok (.getfield 17, 3) := by decide +kernel
theorem dX5_resolved_93 : decode cX5_resolved 93 = .ok (.bipush 12, 2) := by decide +kernel
theorem dX5_resolved_95 : decode cX5_resolved 95 = .ok (.iload_n 1, 1) := by decide +kernel
theorem dX5_resolved_96 : decode cX5_resolved 96 = .ok (.imul, 1) := by decide +kernel
theorem dX5_resolved_97 : decode cX5_resolved 97 = .ok (.iload 4, 2) := by decide +kernel
theorem dX5_resolved_99 : decode cX5_resolved 99 = .ok (.iadd, 1) := by decide +kernel
theorem dX5_resolved_100 : decode cX5_resolved 100 = .ok (.iaload, 1) := by decide +kernel
theorem dX5_resolved_101 : decode cX5_resolved 101 = .ok (.if_icmp .eq 10, 3) := by decide +kernel
theorem dX5_resolved_104 : decode cX5_resolved 104 = .ok (.iconst 4, 1) := by decide +kernel
theorem dX5_resolved_105 : decode cX5_resolved 105 = .ok (.iload 5, 2) := by decide +kernel
theorem dX5_resolved_107 : decode cX5_resolved 107 = .ok (.invokestatic 97, 3) := by decide +kernel
theorem dX5_resolved_110 : decode cX5_resolved 110 = .ok (.ireturn, 1) := by decide +kernel
theorem dX5_resolved_111 : decode cX5_resolved 111 = .ok (.iload_n 3, 1) := by decide +kernel
theorem dX5_resolved_112 : decode cX5_resolved 112 = .ok (.bipush 8, 2) := by decide +kernel
theorem dX5_resolved_114 : decode cX5_resolved 114 = .ok (.if_icmp .ne 10, 3) := by decide +kernel
theorem dX5_resolved_117 : decode cX5_resolved 117 = .ok (.iconst 0, 1) := by decide +kernel
theorem dX5_resolved_118 : decode cX5_resolved 118 = .ok (.iload 5, 2) := by decide +kernel
theorem dX5_resolved_120 : decode cX5_resolved 120 = .ok (.invokestatic 97, 3) := by decide +kernel
theorem dX5_resolved_123 : decode cX5_resolved 123 = .ok (.ireturn, 1) := by decide +kernel
theorem dX5_resolved_124 : decode cX5_resolved 124 = .ok (.aload_n 0, 1) := by decide +kernel
theorem dX5_resolved_125 : decode cX5_resolved 125 = .ok (.getfield 13, 3) := by decide +kernel
theorem dX5_resolved_128 : decode cX5_resolved 128 = .ok (.iload 6, 2) := by decide +kernel
theorem dX5_resolved_130 : decode cX5_resolved 130 = .ok (.iaload, 1) := by decide +kernel
theorem dX5_resolved_131 : decode cX5_resolved 131 = .ok (.iconst 2, 1) := by decide +kernel
theorem dX5_resolved_132 : decode cX5_resolved 132 = .ok (.iand, 1) := by decide +kernel
theorem dX5_resolved_133 : decode cX5_resolved 133 = .ok (.ifCond .eq 7, 3) := by decide +kernel
theorem dX5_resolved_136 : decode cX5_resolved 136 = .ok (.iconst 1, 1) := by decide +kernel
theorem dX5_resolved_137 : decode cX5_resolved 137 = .ok (.goto 4, 3) := by decide +kernel
theorem dX5_resolved_140 : decode cX5_resolved 140 = .ok (.iconst 0, 1) := by decide +kernel
theorem dX5_resolved_141 : decode cX5_resolved 141 = .ok (.istore 8, 2) := by decide +kernel
theorem dX5_resolved_143 : decode cX5_resolved 143 = .ok (.iload_n 3, 1) := by decide +kernel
theorem dX5_resolved_144 : decode cX5_resolved 144 = .ok (.iconst 4, 1) := by decide +kernel
theorem dX5_resolved_145 : decode cX5_resolved 145 = .ok (.if_icmp .ne 8, 3) := by decide +kernel
theorem dX5_resolved_148 : decode cX5_resolved 148 = .ok (.iload 8, 2) := by decide +kernel
theorem dX5_resolved_150 : decode cX5_resolved 150 = .ok (.ifCond .ne 14, 3) := by decide +kernel
theorem dX5_resolved_153 : decode cX5_resolved 153 = .ok (.iload_n 3, 1) := by decide +kernel
theorem dX5_resolved_154 : decode cX5_resolved 154 = .ok (.bipush 7, 2) := by decide +kernel
theorem dX5_resolved_156 : decode cX5_resolved 156 = .ok (.if_icmp .ne 15, 3) := by decide +kernel
theorem dX5_resolved_159 : decode cX5_resolved 159 = .ok (.iload 8, 2) := by decide +kernel
theorem dX5_resolved_161 : decode cX5_resolved 161 = .ok (.ifCond .ne 10, 3) := by decide +kernel
theorem dX5_resolved_164 : decode cX5_resolved 164 = .ok (.iconst 3, 1) := by decide +kernel
theorem dX5_resolved_165 : decode cX5_resolved 165 = .ok (.iload 5, 2) := by decide +kernel
theorem dX5_resolved_167 : decode cX5_resolved 167 = .ok (.invokestatic 97, 3) := by decide +kernel
theorem dX5_resolved_170 : decode cX5_resolved 170 = .ok (.ireturn, 1) := by decide +kernel
theorem dX5_resolved_171 : decode cX5_resolved 171 = .ok (.iload_n 3, 1) := by decide +kernel
theorem dX5_resolved_172 : decode cX5_resolved 172 = .ok (.iconst 4, 1) := by decide +kernel
theorem dX5_resolved_173 : decode cX5_resolved 173 = .ok (.if_icmp .ge 19, 3) := by decide +kernel
theorem dX5_resolved_176 : decode cX5_resolved 176 = .ok (.aload_n 0, 1) := by decide +kernel
theorem dX5_resolved_177 : decode cX5_resolved 177 = .ok (.iload_n 1, 1) := by decide +kernel
theorem dX5_resolved_178 : decode cX5_resolved 178 = .ok (.iload 5, 2) := by decide +kernel
theorem dX5_resolved_180 : decode cX5_resolved 180 = .ok (.aload_n 0, 1) := by decide +kernel
theorem dX5_resolved_181 : decode cX5_resolved 181 = .ok (.getfield 59, 3) := by decide +kernel
theorem dX5_resolved_184 : decode cX5_resolved 184 = .ok (.iload_n 2, 1) := by decide +kernel
theorem dX5_resolved_185 : decode cX5_resolved 185 = .ok (.iaload, 1) := by decide +kernel
theorem dX5_resolved_186 : decode cX5_resolved 186 = .ok (.invokevirtual 133, 3) := by decide +kernel
theorem dX5_resolved_189 : decode cX5_resolved 189 = .ok (.goto 16, 3) := by decide +kernel
theorem dX5_resolved_192 : decode cX5_resolved 192 = .ok (.aload_n 0, 1) := by decide +kernel
theorem dX5_resolved_193 : decode cX5_resolved 193 = .ok (.iload_n 1, 1) := by decide +kernel
theorem dX5_resolved_194 : decode cX5_resolved 194 = .ok (.iload 5, 2) := by decide +kernel
theorem dX5_resolved_196 : decode cX5_resolved 196 = .ok (.aload_n 0, 1) := by decide +kernel
theorem dX5_resolved_197 : decode cX5_resolved 197 = .ok (.getfield 59, 3) := by decide +kernel
theorem dX5_resolved_200 : decode cX5_resolved 200 = .ok (.iload_n 2, 1) := by decide +kernel
theorem dX5_resolved_201 : decode cX5_resolved 201 = .ok (.iaload, 1) := by decide +kernel
theorem dX5_resolved_202 : decode cX5_resolved 202 = .ok (.invokevirtual 136, 3) := by decide +kernel
theorem dX5_resolved_205 : decode cX5_resolved 205 = .ok (.istore 9, 2) := by decide +kernel
theorem dX5_resolved_207 : decode cX5_resolved 207 = .ok (.iload 9, 2) := by decide +kernel
theorem dX5_resolved_209 : decode cX5_resolved 209 = .ok (.ifCond .ge 20, 3) := by decide +kernel
theorem dX5_resolved_212 : decode cX5_resolved 212 = .ok (.iload_n 3, 1) := by decide +kernel
theorem dX5_resolved_213 : decode cX5_resolved 213 = .ok (.iconst 4, 1) := by decide +kernel
theorem dX5_resolved_214 : decode cX5_resolved 214 = .ok (.if_icmp .ge 7, 3) := by decide +kernel
theorem dX5_resolved_217 : decode cX5_resolved 217 = .ok (.iconst 5, 1) := by decide +kernel
theorem dX5_resolved_218 : decode cX5_resolved 218 = .ok (.goto 5, 3) := by decide +kernel
theorem dX5_resolved_221 : decode cX5_resolved 221 = .ok (.bipush 6, 2) := by decide +kernel
theorem dX5_resolved_223 : decode cX5_resolved 223 = .ok (.iload 5, 2) := by decide +kernel
theorem dX5_resolved_225 : decode cX5_resolved 225 = .ok (.invokestatic 97, 3) := by decide +kernel
theorem dX5_resolved_228 : decode cX5_resolved 228 = .ok (.ireturn, 1) := by decide +kernel
theorem dX5_resolved_229 : decode cX5_resolved 229 = .ok (.bipush 30, 2) := by decide +kernel
theorem dX5_resolved_231 : decode cX5_resolved 231 = .ok (.iload_n 1, 1) := by decide +kernel
theorem dX5_resolved_232 : decode cX5_resolved 232 = .ok (.imul, 1) := by decide +kernel
theorem dX5_resolved_233 : decode cX5_resolved 233 = .ok (.iload 9, 2) := by decide +kernel
theorem dX5_resolved_235 : decode cX5_resolved 235 = .ok (.iadd, 1) := by decide +kernel
theorem dX5_resolved_236 : decode cX5_resolved 236 = .ok (.istore 10, 2) := by decide +kernel
theorem dX5_resolved_238 : decode cX5_resolved 238 = .ok (.aload_n 0, 1) := by decide +kernel
theorem dX5_resolved_239 : decode cX5_resolved 239 = .ok (.iload_n 1, 1) := by decide +kernel
theorem dX5_resolved_240 : decode cX5_resolved 240 = .ok (.iload 9, 2) := by decide +kernel
theorem dX5_resolved_242 : decode cX5_resolved 242 = .ok (.iload 5, 2) := by decide +kernel
theorem dX5_resolved_244 : decode cX5_resolved 244 = .ok (.iload 4, 2) := by decide +kernel
theorem dX5_resolved_246 : decode cX5_resolved 246 = .ok (.invokevirtual 139, 3) := by decide +kernel
theorem dX5_resolved_249 : decode cX5_resolved 249 = .ok (.ifCond .ne 13, 3) := by decide +kernel
theorem dX5_resolved_252 : decode cX5_resolved 252 = .ok (.iconst 4, 1) := by decide +kernel
theorem dX5_resolved_253 : decode cX5_resolved 253 = .ok (.bipush 16, 2) := by decide +kernel
theorem dX5_resolved_255 : decode cX5_resolved 255 = .ok (.iload 9, 2) := by decide +kernel
theorem dX5_resolved_257 : decode cX5_resolved 257 = .ok (.iadd, 1) := by decide +kernel
theorem dX5_resolved_258 : decode cX5_resolved 258 = .ok (.invokestatic 97, 3) := by decide +kernel
theorem dX5_resolved_261 : decode cX5_resolved 261 = .ok (.ireturn, 1) := by decide +kernel
theorem dX5_resolved_262 : decode cX5_resolved 262 = .ok (.iload_n 3, 1) := by decide +kernel
theorem dX5_resolved_263 : decode cX5_resolved 263 = .ok (.iconst 2, 1) := by decide +kernel
theorem dX5_resolved_264 : decode cX5_resolved 264 = .ok (.if_icmp .eq 14, 3) := by decide +kernel
theorem dX5_resolved_267 : decode cX5_resolved 267 = .ok (.iload_n 3, 1) := by decide +kernel
theorem dX5_resolved_268 : decode cX5_resolved 268 = .ok (.iconst 3, 1) := by decide +kernel
theorem dX5_resolved_269 : decode cX5_resolved 269 = .ok (.if_icmp .eq 9, 3) := by decide +kernel
theorem dX5_resolved_272 : decode cX5_resolved 272 = .ok (.iload_n 3, 1) := by decide +kernel
theorem dX5_resolved_273 : decode cX5_resolved 273 = .ok (.bipush 6, 2) := by decide +kernel
theorem dX5_resolved_275 : decode cX5_resolved 275 = .ok (.if_icmp .ne 7, 3) := by decide +kernel
theorem dX5_resolved_278 : decode cX5_resolved 278 = .ok (.iconst 1, 1) := by decide +kernel
theorem dX5_resolved_279 : decode cX5_resolved 279 = .ok (.goto 4, 3) := by decide +kernel
theorem dX5_resolved_282 : decode cX5_resolved 282 = .ok (.iconst 0, 1) := by decide +kernel
theorem dX5_resolved_283 : decode cX5_resolved 283 = .ok (.istore 11, 2) := by decide +kernel
theorem dX5_resolved_285 : decode cX5_resolved 285 = .ok (.aload_n 0, 1) := by decide +kernel
theorem dX5_resolved_286 : decode cX5_resolved 286 = .ok (.getfield 47, 3) := by decide +kernel
theorem dX5_resolved_289 : decode cX5_resolved 289 = .ok (.iload 10, 2) := by decide +kernel
theorem dX5_resolved_291 : decode cX5_resolved 291 = .ok (.iaload, 1) := by decide +kernel
theorem dX5_resolved_292 : decode cX5_resolved 292 = .ok (.iconst 1, 1) := by decide +kernel
theorem dX5_resolved_293 : decode cX5_resolved 293 = .ok (.iand, 1) := by decide +kernel
theorem dX5_resolved_294 : decode cX5_resolved 294 = .ok (.ifCond .eq 7, 3) := by decide +kernel
theorem dX5_resolved_297 : decode cX5_resolved 297 = .ok (.iconst 1, 1) := by decide +kernel
theorem dX5_resolved_298 : decode cX5_resolved 298 = .ok (.goto 4, 3) := by decide +kernel
theorem dX5_resolved_301 : decode cX5_resolved 301 = .ok (.iconst 0, 1) := by decide +kernel
theorem dX5_resolved_302 : decode cX5_resolved 302 = .ok (.iload 11, 2) := by decide +kernel
theorem dX5_resolved_304 : decode cX5_resolved 304 = .ok (.if_icmp .eq 13, 3) := by decide +kernel
theorem dX5_resolved_307 : decode cX5_resolved 307 = .ok (.iconst 3, 1) := by decide +kernel
theorem dX5_resolved_308 : decode cX5_resolved 308 = .ok (.bipush 16, 2) := by decide +kernel
theorem dX5_resolved_310 : decode cX5_resolved 310 = .ok (.iload 9, 2) := by decide +kernel
theorem dX5_resolved_312 : decode cX5_resolved 312 = .ok (.iadd, 1) := by decide +kernel
theorem dX5_resolved_313 : decode cX5_resolved 313 = .ok (.invokestatic 97, 3) := by decide +kernel
theorem dX5_resolved_316 : decode cX5_resolved 316 = .ok (.ireturn, 1) := by decide +kernel
theorem dX5_resolved_317 : decode cX5_resolved 317 = .ok (.iload_n 3, 1) := by decide +kernel
theorem dX5_resolved_318 : decode cX5_resolved 318 = .ok (.iconst 1, 1) := by decide +kernel
theorem dX5_resolved_319 : decode cX5_resolved 319 = .ok (.if_icmp .eq 8, 3) := by decide +kernel
theorem dX5_resolved_322 : decode cX5_resolved 322 = .ok (.iload_n 3, 1) := by decide +kernel
theorem dX5_resolved_323 : decode cX5_resolved 323 = .ok (.iconst 3, 1) := by decide +kernel
theorem dX5_resolved_324 : decode cX5_resolved 324 = .ok (.if_icmp .ne 37, 3) := by decide +kernel
theorem dX5_resolved_327 : decode cX5_resolved 327 = .ok (.aload_n 0, 1) := by decide +kernel
theorem dX5_resolved_328 : decode cX5_resolved 328 = .ok (.getfield 47, 3) := by decide +kernel
theorem dX5_resolved_331 : decode cX5_resolved 331 = .ok (.iload 10, 2) := by decide +kernel
theorem dX5_resolved_333 : decode cX5_resolved 333 = .ok (.iaload, 1) := by decide +kernel
theorem dX5_resolved_334 : decode cX5_resolved 334 = .ok (.iconst 4, 1) := by decide +kernel
theorem dX5_resolved_335 : decode cX5_resolved 335 = .ok (.iand, 1) := by decide +kernel
theorem dX5_resolved_336 : decode cX5_resolved 336 = .ok (.ifCond .eq 25, 3) := by decide +kernel
theorem dX5_resolved_339 : decode cX5_resolved 339 = .ok (.iload 4, 2) := by decide +kernel
theorem dX5_resolved_341 : decode cX5_resolved 341 = .ok (.aload_n 0, 1) := by decide +kernel
theorem dX5_resolved_342 : decode cX5_resolved 342 = .ok (.getfield 38, 3) := by decide +kernel
theorem dX5_resolved_345 : decode cX5_resolved 345 = .ok (.iload 10, 2) := by decide +kernel
theorem dX5_resolved_347 : decode cX5_resolved 347 = .ok (.iaload, 1) := by decide +kernel
theorem dX5_resolved_348 : decode cX5_resolved 348 = .ok (.if_icmp .eq 13, 3) := by decide +kernel
theorem dX5_resolved_351 : decode cX5_resolved 351 = .ok (.iconst 4, 1) := by decide +kernel
theorem dX5_resolved_352 : decode cX5_resolved 352 = .ok (.bipush 16, 2) := by decide +kernel
theorem dX5_resolved_354 : decode cX5_resolved 354 = .ok (.iload 9, 2) := by decide +kernel
theorem dX5_resolved_356 : decode cX5_resolved 356 = .ok (.iadd, 1) := by decide +kernel
theorem dX5_resolved_357 : decode cX5_resolved 357 = .ok (.invokestatic 97, 3) := by decide +kernel
theorem dX5_resolved_360 : decode cX5_resolved 360 = .ok (.ireturn, 1) := by decide +kernel
theorem dX5_resolved_361 : decode cX5_resolved 361 = .ok (.iload_n 3, 1) := by decide +kernel
theorem dX5_resolved_362 : decode cX5_resolved 362 = .ok (.iconst 5, 1) := by decide +kernel
theorem dX5_resolved_363 : decode cX5_resolved 363 = .ok (.if_icmp .ne 22, 3) := by decide +kernel
theorem dX5_resolved_366 : decode cX5_resolved 366 = .ok (.aload_n 0, 1) := by decide +kernel
theorem dX5_resolved_367 : decode cX5_resolved 367 = .ok (.iload_n 1, 1) := by decide +kernel
theorem dX5_resolved_368 : decode cX5_resolved 368 = .ok (.iload 4, 2) := by decide +kernel
theorem dX5_resolved_370 : decode cX5_resolved 370 = .ok (.iload 5, 2) := by decide +kernel
theorem dX5_resolved_372 : decode cX5_resolved 372 = .ok (.invokevirtual 116, 3) := by decide +kernel
theorem dX5_resolved_375 : decode cX5_resolved 375 = .ok (.ifCond .ne 10, 3) := by decide +kernel
theorem dX5_resolved_378 : decode cX5_resolved 378 = .ok (.iconst 3, 1) := by decide +kernel
theorem dX5_resolved_379 : decode cX5_resolved 379 = .ok (.iload 5, 2) := by decide +kernel
theorem dX5_resolved_381 : decode cX5_resolved 381 = .ok (.invokestatic 97, 3) := by decide +kernel
theorem dX5_resolved_384 : decode cX5_resolved 384 = .ok (.ireturn, 1) := by decide +kernel
theorem dX5_resolved_385 : decode cX5_resolved 385 = .ok (.iload_n 3, 1) := by decide +kernel
theorem dX5_resolved_386 : decode cX5_resolved 386 = .ok (.iconst 5, 1) := by decide +kernel
theorem dX5_resolved_387 : decode cX5_resolved 387 = .ok (.if_icmp .ne 26, 3) := by decide +kernel
theorem dX5_resolved_390 : decode cX5_resolved 390 = .ok (.aload_n 0, 1) := by decide +kernel
theorem dX5_resolved_391 : decode cX5_resolved 391 = .ok (.getfield 47, 3) := by decide +kernel
theorem dX5_resolved_394 : decode cX5_resolved 394 = .ok (.iload 10, 2) := by decide +kernel
theorem dX5_resolved_396 : decode cX5_resolved 396 = .ok (.iaload, 1) := by decide +kernel
theorem dX5_resolved_397 : decode cX5_resolved 397 = .ok (.iconst 2, 1) := by decide +kernel
theorem dX5_resolved_398 : decode cX5_resolved 398 = .ok (.iand, 1) := by decide +kernel
theorem dX5_resolved_399 : decode cX5_resolved 399 = .ok (.ifCond .eq 14, 3) := by decide +kernel
theorem dX5_resolved_402 : decode cX5_resolved 402 = .ok (.bipush 7, 2) := by decide +kernel
theorem dX5_resolved_404 : decode cX5_resolved 404 = .ok (.bipush 16, 2) := by decide +kernel
theorem dX5_resolved_406 : decode cX5_resolved 406 = .ok (.iload 9, 2) := by decide +kernel
theorem dX5_resolved_408 : decode cX5_resolved 408 = .ok (.iadd, 1) := by decide +kernel
theorem dX5_resolved_409 : decode cX5_resolved 409 = .ok (.invokestatic 97, 3) := by decide +kernel
theorem dX5_resolved_412 : decode cX5_resolved 412 = .ok (.ireturn, 1) := by decide +kernel
theorem dX5_resolved_413 : decode cX5_resolved 413 = .ok (.iconst 0, 1) := by decide +kernel
theorem dX5_resolved_414 : decode cX5_resolved 414 = .ok (.bipush 16, 2) := by decide +kernel
theorem dX5_resolved_416 : decode cX5_resolved 416 = .ok (.iload 9, 2) := by decide +kernel
theorem dX5_resolved_418 : decode cX5_resolved 418 = .ok (.iadd, 1) := by decide +kernel
theorem dX5_resolved_419 : decode cX5_resolved 419 = .ok (.invokestatic 97, 3) := by decide +kernel
theorem dX5_resolved_422 : decode cX5_resolved 422 = .ok (.ireturn, 1) := by decide +kernel
theorem dX5_overrides_0 : decode cX5_overrides 0 = .ok (.bipush 30, 2) := by decide +kernel
theorem dX5_overrides_2 : decode cX5_overrides 2 = .ok (.iload_n 1, 1) := by decide +kernel
theorem dX5_overrides_3 : decode cX5_overrides 3 = .ok (.imul, 1) := by decide +kernel
theorem dX5_overrides_4 : decode cX5_overrides 4 = .ok (.iload_n 2, 1) := by decide +kernel
theorem dX5_overrides_5 : decode cX5_overrides 5 = .ok (.iadd, 1) := by decide +kernel
theorem dX5_overrides_6 : decode cX5_overrides 6 = .ok (.istore 4, 2) := by decide +kernel
theorem dX5_overrides_8 : decode cX5_overrides 8 = .ok (.bipush 30, 2) := by decide +kernel
theorem dX5_overrides_10 : decode cX5_overrides 10 = .ok (.iload_n 1, 1) := by decide +kernel
theorem dX5_overrides_11 : decode cX5_overrides 11 = .ok (.imul, 1) := by decide +kernel
theorem dX5_overrides_12 : decode cX5_overrides 12 = .ok (.iload_n 3, 1) := by decide +kernel
theorem dX5_overrides_13 : decode cX5_overrides 13 = .ok (.iadd, 1) := by decide +kernel
theorem dX5_overrides_14 : decode cX5_overrides 14 = .ok (.istore 5, 2) := by decide +kernel
theorem dX5_overrides_16 : decode cX5_overrides 16 = .ok (.iload_n 2, 1) := by decide +kernel
theorem dX5_overrides_17 : decode cX5_overrides 17 = .ok (.iload_n 3, 1) := by decide +kernel
theorem dX5_overrides_18 : decode cX5_overrides 18 = .ok (.if_icmp .eq 25, 3) := by decide +kernel
theorem dX5_overrides_21 : decode cX5_overrides 21 = .ok (.aload_n 0, 1) := by decide +kernel
theorem dX5_overrides_22 : decode cX5_overrides 22 = .ok (.getfield 44, 3) := by decide +kernel
theorem dX5_overrides_25 : decode cX5_overrides 25 = .ok (.iload 5, 2) := by decide +kernel
theorem dX5_overrides_27 : decode cX5_overrides 27 = .ok (.iaload, 1) := by decide +kernel
theorem dX5_overrides_28 : decode cX5_overrides 28 = .ok (.iconst 3, 1) := by decide +kernel
theorem dX5_overrides_29 : decode cX5_overrides 29 = .ok (.if_icmp .eq 14, 3) := by decide +kernel
theorem dX5_overrides_32 : decode cX5_overrides 32 = .ok (.aload_n 0, 1) := by decide +kernel
theorem dX5_overrides_33 : decode cX5_overrides 33 = .ok (.getfield 44, 3) := by decide +kernel
theorem dX5_overrides_36 : decode cX5_overrides 36 = .ok (.iload 5, 2) := by decide +kernel
theorem dX5_overrides_38 : decode cX5_overrides 38 = .ok (.iaload, 1) := by decide +kernel
theorem dX5_overrides_39 : decode cX5_overrides 39 = .ok (.iconst 2, 1) := by decide +kernel
theorem dX5_overrides_40 : decode cX5_overrides 40 = .ok (.if_icmp .ne 5, 3) := by decide +kernel
theorem dX5_overrides_43 : decode cX5_overrides 43 = .ok (.iconst 1, 1) := by decide +kernel
theorem dX5_overrides_44 : decode cX5_overrides 44 = .ok (.ireturn, 1) := by decide +kernel
theorem dX5_overrides_45 : decode cX5_overrides 45 = .ok (.aload_n 0, 1) := by decide +kernel
theorem dX5_overrides_46 : decode cX5_overrides 46 = .ok (.getfield 44, 3) := by decide +kernel
theorem dX5_overrides_49 : decode cX5_overrides 49 = .ok (.iload 5, 2) := by decide +kernel
theorem dX5_overrides_51 : decode cX5_overrides 51 = .ok (.iaload, 1) := by decide +kernel
theorem dX5_overrides_52 : decode cX5_overrides 52 = .ok (.iconst 1, 1) := by decide +kernel
theorem dX5_overrides_53 : decode cX5_overrides 53 = .ok (.if_icmp .ne 44, 3) := by decide +kernel
theorem dX5_overrides_56 : decode cX5_overrides 56 = .ok (.aload_n 0, 1) := by decide +kernel
theorem dX5_overrides_57 : decode cX5_overrides 57 = .ok (.getfield 17, 3) := by decide +kernel
theorem dX5_overrides_60 : decode cX5_overrides 60 = .ok (.bipush 12, 2) := by decide +kernel
theorem dX5_overrides_62 : decode cX5_overrides 62 = .ok (.iload_n 1, 1) := by decide +kernel
theorem dX5_overrides_63 : decode cX5_overrides 63 = .ok (.imul, 1) := by decide +kernel
theorem dX5_overrides_64 : decode cX5_overrides 64 = .ok (.aload_n 0, 1) := by decide +kernel
theorem dX5_overrides_65 : decode cX5_overrides 65 = .ok (.getfield 38, 3) := by decide +kernel
theorem dX5_overrides_68 : decode cX5_overrides 68 = .ok (.iload 4, 2) := by decide +kernel
theorem dX5_overrides_70 : decode cX5_overrides 70 = .ok (.iaload, 1) := by decide +kernel
theorem dX5_overrides_71 : decode cX5_overrides 71 = .ok (.iadd, 1) := by decide +kernel
theorem dX5_overrides_72 : decode cX5_overrides 72 = .ok (.iaload, 1) := by decide +kernel
theorem dX5_overrides_73 : decode cX5_overrides 73 = .ok (.aload_n 0, 1) := by decide +kernel
theorem dX5_overrides_74 : decode cX5_overrides 74 = .ok (.getfield 17, 3) := by decide +kernel
theorem dX5_overrides_77 : decode cX5_overrides 77 = .ok (.bipush 12, 2) := by decide +kernel
theorem dX5_overrides_79 : decode cX5_overrides 79 = .ok (.iload_n 1, 1) := by decide +kernel
theorem dX5_overrides_80 : decode cX5_overrides 80 = .ok (.imul, 1) := by decide +kernel
theorem dX5_overrides_81 : decode cX5_overrides 81 = .ok (.aload_n 0, 1) := by decide +kernel
theorem dX5_overrides_82 : decode cX5_overrides 82 = .ok (.getfield 38, 3) := by decide +kernel
theorem dX5_overrides_85 : decode cX5_overrides 85 = .ok (.iload 5, 2) := by decide +kernel
theorem dX5_overrides_87 : decode cX5_overrides 87 = .ok (.iaload, 1) := by decide +kernel
theorem dX5_overrides_88 : decode cX5_overrides 88 = .ok (.iadd, 1) := by decide +kernel
theorem dX5_overrides_89 : decode cX5_overrides 89 = .ok (.iaload, 1) := by decide +kernel
theorem dX5_overrides_90 : decode cX5_overrides 90 = .ok (.if_icmp .ne 7, 3) := by decide +kernel
theorem dX5_overrides_93 : decode cX5_overrides 93 = .ok (.iconst 1, 1) := by decide +kernel
theorem dX5_overrides_94 : decode cX5_overrides 94 = .ok (.goto 4, 3) := by decide +kernel
theorem dX5_overrides_97 : decode cX5_overrides 97 = .ok (.iconst 0, 1) := by decide +kernel
theorem dX5_overrides_98 : decode cX5_overrides 98 = .ok (.ireturn, 1) := by decide +kernel
set_option maxRecDepth 20000 in
theorem ggX5_selected_X5_resolved : GoodIn wsX5_selected wsX5_resolved := goodIn_r _ [12, 7, 13, 3, 2, 14, 1, 6, 15, 16, 17, 18, 11, 19, 20, 21, 22, 5, 23, 24, 25, 26, 27, 28, 29, 30, 31, 32, 33, 34, 35, 36, 37, 38, 39, 40, 41, 42, 43, 44, 45, 46, 47, 48, 49, 50, 51, 52, 53, 4, 54, 55, 56, 57, 58, 59, 60, 61, 62, 63, 64, 65, 66, 67, 68, 69, 70, 71, 72, 73, 74, 75, 76, 77, 78, 79, 80, 81, 82, 83, 84, 85, 86, 95, 96, 97, 98, 99, 100, 101, 102, 103, 104, 105, 106, 107, 108, 109, 110, 111, 112, 113, 114, 115] (by decide +kernel) (by decide +kernel)
set_option maxRecDepth 20000 in
theorem gX5_selected_X5_resolved : GoodIn wsX5_selected (wsV RX5 143 RX5 yX5_resolved wsX5_resolved) := goodIn_app (goodIn_of _ (by decide +kernel)) ggX5_selected_X5_resolved
set_option maxRecDepth 20000 in
theorem ggX5_selected_X5_isLoaded : GoodIn wsX5_selected wsX5_isLoaded := goodIn_r _ [90, 16, 17, 18, 11, 19, 20, 21, 22, 5, 23, 24, 25, 26, 27, 28, 29, 30, 31, 32, 33, 2, 95, 96, 97, 98, 99, 100, 101, 102, 103, 104, 105, 106, 107, 108, 109, 110, 111, 112, 113, 114, 115] (by decide +kernel) (by decide +kernel)
set_option maxRecDepth 20000 in
theorem gX5_selected_X5_isLoaded : GoodIn wsX5_selected (wsV RX5 146 RX5 yX5_isLoaded wsX5_isLoaded) := goodIn_app (goodIn_of _ (by decide +kernel)) ggX5_selected_X5_isLoaded
set_option maxRecDepth 20000 in
theorem ggX5_selected_X5_under : GoodIn wsX5_selected wsX5_under := goodIn_r _ [73, 62, 63, 64, 11, 65, 5, 58, 59, 60, 61, 23, 27, 28, 29, 95, 96, 97, 98, 99, 100, 101, 102, 103, 104, 105, 106, 107, 108, 109, 110, 111, 112, 113, 114, 115] (by decide +kernel) (by decide +kernel)
set_option maxRecDepth 20000 in
theorem gX5_selected_X5_under : GoodIn wsX5_selected (wsV RX5 116 RX5 yX5_under wsX5_under) := goodIn_app (goodIn_of _ (by decide +kernel)) ggX5_selected_X5_under
set_option maxRecDepth 20000 in
theorem ggX5_selected_X5_verdict : GoodIn wsX5_selected wsX5_verdict := goodIn_r _ [26] (by decide +kernel) (by decide +kernel)
set_option maxRecDepth 20000 in
theorem gX5_selected_X5_verdict : GoodIn wsX5_selected (va_wsS RX5 97 yX5_verdict wsX5_verdict) := goodIn_app (goodIn_of _ (by decide +kernel)) ggX5_selected_X5_verdict
set_option maxRecDepth 20000 in
theorem ggX5_selected_X5_own : GoodIn wsX5_selected wsX5_own := goodIn_r _ [41, 42, 43, 15, 44, 45, 95, 96, 97, 98, 99, 100, 101, 102, 103, 104, 105, 106, 107, 108, 109, 110, 111, 112, 113, 114, 115] (by decide +kernel) (by decide +kernel)
set_option maxRecDepth 20000 in
theorem gX5_selected_X5_own : GoodIn wsX5_selected (wsV RX5 84 RX5 yX5_own wsX5_own) := goodIn_app (goodIn_of _ (by decide +kernel)) ggX5_selected_X5_own
set_option maxRecDepth 20000 in
theorem ggX5_selected_X5_offers : GoodIn wsX5_selected wsX5_offers := goodIn_r _ [69, 4, 6, 38, 39, 40, 11, 41, 42, 43, 15, 44, 45, 95, 96, 97, 98, 99, 100, 101, 102, 103, 104, 105, 106, 107, 108, 109, 110, 111, 112, 113, 114, 115] (by decide +kernel) (by decide +kernel)
set_option maxRecDepth 20000 in
theorem gX5_selected_X5_offers : GoodIn wsX5_selected (wsV RX5 123 RX5 yX5_offers wsX5_offers) := goodIn_app (goodIn_of _ (by decide +kernel)) ggX5_selected_X5_offers
set_option maxRecDepth 20000 in
theorem ggX5_selected_X5_overrides : GoodIn wsX5_selected wsX5_overrides := goodIn_r _ [94, 4, 14, 15, 95, 96, 97, 98, 99, 100, 101, 102, 103, 104, 105, 106, 107, 108, 109, 110, 111, 112, 113, 114, 115] (by decide +kernel) (by decide +kernel)
set_option maxRecDepth 20000 in
theorem gX5_selected_X5_overrides : GoodIn wsX5_selected (wsV RX5 149 RX5 yX5_overrides wsX5_overrides) := goodIn_app (goodIn_of _ (by decide +kernel)) ggX5_selected_X5_overrides
set_option maxRecDepth 20000 in
theorem ggX5_selected_X5_specific : GoodIn wsX5_selected wsX5_specific := goodIn_r _ [57, 58, 59, 60, 11, 61, 23, 62, 63, 64, 65, 5, 27, 28, 29, 66, 67, 68, 69, 4, 6, 38, 39, 40, 41, 42, 43, 15, 44, 45, 70, 71, 72, 73, 95, 96, 97, 98, 99, 100, 101, 102, 103, 104, 105, 106, 107, 108, 109, 110, 111, 112, 113, 114, 115] (by decide +kernel) (by decide +kernel)
set_option maxRecDepth 20000 in
theorem gX5_selected_X5_specific : GoodIn wsX5_selected (wsV RX5 126 RX5 yX5_specific wsX5_specific) := goodIn_app (goodIn_of _ (by decide +kernel)) ggX5_selected_X5_specific
set_option maxRecDepth 20000 in
theorem ggX5_selected_X5_bodied : GoodIn wsX5_selected wsX5_bodied := goodIn_r _ [77, 6, 27, 28, 11, 29, 38, 39, 40, 41, 42, 43, 15, 44, 45, 95, 96, 97, 98, 99, 100, 101, 102, 103, 104, 105, 106, 107, 108, 109, 110, 111, 112, 113, 114, 115] (by decide +kernel) (by decide +kernel)
set_option maxRecDepth 20000 in
theorem gX5_selected_X5_bodied : GoodIn wsX5_selected (wsV RX5 130 RX5 yX5_bodied wsX5_bodied) := goodIn_app (goodIn_of _ (by decide +kernel)) ggX5_selected_X5_bodied
theorem dX5_selected_0 : decode cX5_selected 0 = .ok (.aload_n 0, 1) := by decide +kernel
theorem dX5_selected_1 : decode cX5_selected 1 = .ok (.iload_n 1, 1) := by decide +kernel
theorem dX5_selected_2 : decode cX5_selected 2 = .ok (.iload_n 2, 1) := by decide +kernel
theorem dX5_selected_3 : decode cX5_selected 3 = .ok (.invokevirtual 143, 3) := by decide +kernel
theorem dX5_selected_6 : decode cX5_selected 6 = .ok (.bipush 16, 2) := by decide +kernel
theorem dX5_selected_8 : decode cX5_selected 8 = .ok (.isub, 1) := by decide +kernel
theorem dX5_selected_9 : decode cX5_selected 9 = .ok (.istore 4, 2) := by decide +kernel
theorem dX5_selected_11 : decode cX5_selected 11 = .ok (.aload_n 0, 1) := by decide +kernel
theorem dX5_selected_12 : decode cX5_selected 12 = .ok (.getfield 59, 3) := by decide +kernel
theorem dX5_selected_15 : decode cX5_selected 15 = .ok (.iload_n 2, 1) := by decide +kernel
theorem dX5_selected_16 : decode cX5_selected 16 = .ok (.iaload, 1) := by decide +kernel
theorem dX5_selected_17 : decode cX5_selected 17 = .ok (.istore 5, 2) := by decide +kernel
theorem dX5_selected_19 : decode cX5_selected 19 = .ok (.bipush 12, 2) := by decide +kernel
theorem dX5_selected_21 : decode cX5_selected 21 = .ok (.iload_n 1, 1) := by decide +kernel
theorem dX5_selected_22 : decode cX5_selected 22 = .ok (.imul, 1) := by decide +kernel
theorem dX5_selected_23 : decode cX5_selected 23 = .ok (.iload_n 3, 1) := by decide +kernel
theorem dX5_selected_24 : decode cX5_selected 24 = .ok (.iadd, 1) := by decide +kernel
theorem dX5_selected_25 : decode cX5_selected 25 = .ok (.istore 6, 2) := by decide +kernel
theorem dX5_selected_27 : decode cX5_selected 27 = .ok (.aload_n 0, 1) := by decide +kernel
theorem dX5_selected_28 : decode cX5_selected 28 = .ok (.iload_n 1, 1) := by decide +kernel
theorem dX5_selected_29 : decode cX5_selected 29 = .ok (.iload_n 3, 1) := by decide +kernel
theorem dX5_selected_30 : decode cX5_selected 30 = .ok (.invokevirtual 146, 3) := by decide +kernel
theorem dX5_selected_33 : decode cX5_selected 33 = .ok (.ifCond .eq 31, 3) := by decide +kernel
theorem dX5_selected_36 : decode cX5_selected 36 = .ok (.aload_n 0, 1) := by decide +kernel
theorem dX5_selected_37 : decode cX5_selected 37 = .ok (.getfield 13, 3) := by decide +kernel
theorem dX5_selected_40 : decode cX5_selected 40 = .ok (.iload 6, 2) := by decide +kernel
theorem dX5_selected_42 : decode cX5_selected 42 = .ok (.iaload, 1) := by decide +kernel
theorem dX5_selected_43 : decode cX5_selected 43 = .ok (.bipush 6, 2) := by decide +kernel
theorem dX5_selected_45 : decode cX5_selected 45 = .ok (.iand, 1) := by decide +kernel
theorem dX5_selected_46 : decode cX5_selected 46 = .ok (.ifCond .ne 18, 3) := by decide +kernel
theorem dX5_selected_49 : decode cX5_selected 49 = .ok (.aload_n 0, 1) := by decide +kernel
theorem dX5_selected_50 : decode cX5_selected 50 = .ok (.iload_n 1, 1) := by decide +kernel
theorem dX5_selected_51 : decode cX5_selected 51 = .ok (.iload_n 3, 1) := by decide +kernel
theorem dX5_selected_52 : decode cX5_selected 52 = .ok (.aload_n 0, 1) := by decide +kernel
theorem dX5_selected_53 : decode cX5_selected 53 = .ok (.getfield 56, 3) := by decide +kernel
theorem dX5_selected_56 : decode cX5_selected 56 = .ok (.iload_n 2, 1) := by decide +kernel
theorem dX5_selected_57 : decode cX5_selected 57 = .ok (.iaload, 1) := by decide +kernel
theorem dX5_selected_58 : decode cX5_selected 58 = .ok (.invokevirtual 116, 3) := by decide +kernel
theorem dX5_selected_61 : decode cX5_selected 61 = .ok (.ifCond .ne 10, 3) := by decide +kernel
theorem dX5_selected_64 : decode cX5_selected 64 = .ok (.bipush 8, 2) := by decide +kernel
theorem dX5_selected_66 : decode cX5_selected 66 = .ok (.iload_n 3, 1) := by decide +kernel
theorem dX5_selected_67 : decode cX5_selected 67 = .ok (.invokestatic 97, 3) := by decide +kernel
theorem dX5_selected_70 : decode cX5_selected 70 = .ok (.ireturn, 1) := by decide +kernel
theorem dX5_selected_71 : decode cX5_selected 71 = .ok (.aload_n 0, 1) := by decide +kernel
theorem dX5_selected_72 : decode cX5_selected 72 = .ok (.getfield 44, 3) := by decide +kernel
theorem dX5_selected_75 : decode cX5_selected 75 = .ok (.bipush 30, 2) := by decide +kernel
theorem dX5_selected_77 : decode cX5_selected 77 = .ok (.iload_n 1, 1) := by decide +kernel
theorem dX5_selected_78 : decode cX5_selected 78 = .ok (.imul, 1) := by decide +kernel
theorem dX5_selected_79 : decode cX5_selected 79 = .ok (.iload 4, 2) := by decide +kernel
theorem dX5_selected_81 : decode cX5_selected 81 = .ok (.iadd, 1) := by decide +kernel
theorem dX5_selected_82 : decode cX5_selected 82 = .ok (.iaload, 1) := by decide +kernel
theorem dX5_selected_83 : decode cX5_selected 83 = .ok (.ifCond .ne 8, 3) := by decide +kernel
theorem dX5_selected_86 : decode cX5_selected 86 = .ok (.iload 4, 2) := by decide +kernel
theorem dX5_selected_88 : decode cX5_selected 88 = .ok (.goto 4, 3) := by decide +kernel
theorem dX5_selected_91 : decode cX5_selected 91 = .ok (.iconst (-1), 1) := by decide +kernel
theorem dX5_selected_92 : decode cX5_selected 92 = .ok (.istore 7, 2) := by decide +kernel
theorem dX5_selected_94 : decode cX5_selected 94 = .ok (.iload_n 3, 1) := by decide +kernel
theorem dX5_selected_95 : decode cX5_selected 95 = .ok (.istore 8, 2) := by decide +kernel
theorem dX5_selected_97 : decode cX5_selected 97 = .ok (.iload 8, 2) := by decide +kernel
theorem dX5_selected_99 : decode cX5_selected 99 = .ok (.ifCond .lt 70, 3) := by decide +kernel
theorem dX5_selected_102 : decode cX5_selected 102 = .ok (.iload 7, 2) := by decide +kernel
theorem dX5_selected_104 : decode cX5_selected 104 = .ok (.ifCond .ge 65, 3) := by decide +kernel
theorem dX5_selected_107 : decode cX5_selected 107 = .ok (.aload_n 0, 1) := by decide +kernel
theorem dX5_selected_108 : decode cX5_selected 108 = .ok (.iload_n 1, 1) := by decide +kernel
theorem dX5_selected_109 : decode cX5_selected 109 = .ok (.iload 8, 2) := by decide +kernel
theorem dX5_selected_111 : decode cX5_selected 111 = .ok (.iconst 1, 1) := by decide +kernel
theorem dX5_selected_112 : decode cX5_selected 112 = .ok (.iload 5, 2) := by decide +kernel
theorem dX5_selected_114 : decode cX5_selected 114 = .ok (.invokevirtual 84, 3) := by decide +kernel
theorem dX5_selected_117 : decode cX5_selected 117 = .ok (.istore 9, 2) := by decide +kernel
theorem dX5_selected_119 : decode cX5_selected 119 = .ok (.iload 9, 2) := by decide +kernel
theorem dX5_selected_121 : decode cX5_selected 121 = .ok (.ifCond .lt 31, 3) := by decide +kernel
theorem dX5_selected_124 : decode cX5_selected 124 = .ok (.aload_n 0, 1) := by decide +kernel
theorem dX5_selected_125 : decode cX5_selected 125 = .ok (.iload_n 1, 1) := by decide +kernel
theorem dX5_selected_126 : decode cX5_selected 126 = .ok (.iload 8, 2) := by decide +kernel
theorem dX5_selected_128 : decode cX5_selected 128 = .ok (.iload 5, 2) := by decide +kernel
theorem dX5_selected_130 : decode cX5_selected 130 = .ok (.invokevirtual 123, 3) := by decide +kernel
theorem dX5_selected_133 : decode cX5_selected 133 = .ok (.ifCond .eq 19, 3) := by decide +kernel
theorem dX5_selected_136 : decode cX5_selected 136 = .ok (.aload_n 0, 1) := by decide +kernel
theorem dX5_selected_137 : decode cX5_selected 137 = .ok (.iload_n 1, 1) := by decide +kernel
theorem dX5_selected_138 : decode cX5_selected 138 = .ok (.iload 9, 2) := by decide +kernel
theorem dX5_selected_140 : decode cX5_selected 140 = .ok (.iload 4, 2) := by decide +kernel
theorem dX5_selected_142 : decode cX5_selected 142 = .ok (.invokevirtual 149, 3) := by decide +kernel
theorem dX5_selected_145 : decode cX5_selected 145 = .ok (.ifCond .eq 7, 3) := by decide +kernel
theorem dX5_selected_148 : decode cX5_selected 148 = .ok (.iload 9, 2) := by decide +kernel
theorem dX5_selected_150 : decode cX5_selected 150 = .ok (.istore 7, 2) := by decide +kernel
theorem dX5_selected_152 : decode cX5_selected 152 = .ok (.aload_n 0, 1) := by decide +kernel
theorem dX5_selected_153 : decode cX5_selected 153 = .ok (.getfield 20, 3) := by decide +kernel
theorem dX5_selected_156 : decode cX5_selected 156 = .ok (.bipush 12, 2) := by decide +kernel
theorem dX5_selected_158 : decode cX5_selected 158 = .ok (.iload_n 1, 1) := by decide +kernel
theorem dX5_selected_159 : decode cX5_selected 159 = .ok (.imul, 1) := by decide +kernel
theorem dX5_selected_160 : decode cX5_selected 160 = .ok (.iload 8, 2) := by decide +kernel
theorem dX5_selected_162 : decode cX5_selected 162 = .ok (.iadd, 1) := by decide +kernel
theorem dX5_selected_163 : decode cX5_selected 163 = .ok (.iaload, 1) := by decide +kernel
theorem dX5_selected_164 : decode cX5_selected 164 = .ok (.istore 8, 2) := by decide +kernel
theorem dX5_selected_166 : decode cX5_selected 166 = .ok (.goto (-69), 3) := by decide +kernel
theorem dX5_selected_169 : decode cX5_selected 169 = .ok (.iload 7, 2) := by decide +kernel
theorem dX5_selected_171 : decode cX5_selected 171 = .ok (.ifCond .ge 43, 3) := by decide +kernel
theorem dX5_selected_174 : decode cX5_selected 174 = .ok (.aload_n 0, 1) := by decide +kernel
theorem dX5_selected_175 : decode cX5_selected 175 = .ok (.iload_n 1, 1) := by decide +kernel
theorem dX5_selected_176 : decode cX5_selected 176 = .ok (.aload_n 0, 1) := by decide +kernel
theorem dX5_selected_177 : decode cX5_selected 177 = .ok (.iload_n 1, 1) := by decide +kernel
theorem dX5_selected_178 : decode cX5_selected 178 = .ok (.iload_n 3, 1) := by decide +kernel
theorem dX5_selected_179 : decode cX5_selected 179 = .ok (.iload 5, 2) := by decide +kernel
theorem dX5_selected_181 : decode cX5_selected 181 = .ok (.invokevirtual 126, 3) := by decide +kernel
theorem dX5_selected_184 : decode cX5_selected 184 = .ok (.iload 5, 2) := by decide +kernel
theorem dX5_selected_186 : decode cX5_selected 186 = .ok (.invokevirtual 130, 3) := by decide +kernel
theorem dX5_selected_189 : decode cX5_selected 189 = .ok (.istore 7, 2) := by decide +kernel
theorem dX5_selected_191 : decode cX5_selected 191 = .ok (.iload 7, 2) := by decide +kernel
theorem dX5_selected_193 : decode cX5_selected 193 = .ok (.ifCond .ge 21, 3) := by decide +kernel
theorem dX5_selected_196 : decode cX5_selected 196 = .ok (.iload 7, 2) := by decide +kernel
theorem dX5_selected_198 : decode cX5_selected 198 = .ok (.bipush (-2), 2) := by decide +kernel
theorem dX5_selected_200 : decode cX5_selected 200 = .ok (.if_icmp .ne 7, 3) := by decide +kernel
theorem dX5_selected_203 : decode cX5_selected 203 = .ok (.iconst 3, 1) := by decide +kernel
theorem dX5_selected_204 : decode cX5_selected 204 = .ok (.goto 5, 3) := by decide +kernel
theorem dX5_selected_207 : decode cX5_selected 207 = .ok (.bipush 7, 2) := by decide +kernel
theorem dX5_selected_209 : decode cX5_selected 209 = .ok (.iload_n 3, 1) := by decide +kernel
theorem dX5_selected_210 : decode cX5_selected 210 = .ok (.invokestatic 97, 3) := by decide +kernel
theorem dX5_selected_213 : decode cX5_selected 213 = .ok (.ireturn, 1) := by decide +kernel
theorem dX5_selected_214 : decode cX5_selected 214 = .ok (.bipush 30, 2) := by decide +kernel
theorem dX5_selected_216 : decode cX5_selected 216 = .ok (.iload_n 1, 1) := by decide +kernel
theorem dX5_selected_217 : decode cX5_selected 217 = .ok (.imul, 1) := by decide +kernel
theorem dX5_selected_218 : decode cX5_selected 218 = .ok (.iload 7, 2) := by decide +kernel
theorem dX5_selected_220 : decode cX5_selected 220 = .ok (.iadd, 1) := by decide +kernel
theorem dX5_selected_221 : decode cX5_selected 221 = .ok (.istore 8, 2) := by decide +kernel
theorem dX5_selected_223 : decode cX5_selected 223 = .ok (.aload_n 0, 1) := by decide +kernel
theorem dX5_selected_224 : decode cX5_selected 224 = .ok (.getfield 47, 3) := by decide +kernel
theorem dX5_selected_227 : decode cX5_selected 227 = .ok (.iload 8, 2) := by decide +kernel
theorem dX5_selected_229 : decode cX5_selected 229 = .ok (.iaload, 1) := by decide +kernel
theorem dX5_selected_230 : decode cX5_selected 230 = .ok (.iconst 2, 1) := by decide +kernel
theorem dX5_selected_231 : decode cX5_selected 231 = .ok (.iand, 1) := by decide +kernel
theorem dX5_selected_232 : decode cX5_selected 232 = .ok (.ifCond .eq 14, 3) := by decide +kernel
theorem dX5_selected_235 : decode cX5_selected 235 = .ok (.bipush 7, 2) := by decide +kernel
theorem dX5_selected_237 : decode cX5_selected 237 = .ok (.bipush 16, 2) := by decide +kernel
theorem dX5_selected_239 : decode cX5_selected 239 = .ok (.iload 7, 2) := by decide +kernel
theorem dX5_selected_241 : decode cX5_selected 241 = .ok (.iadd, 1) := by decide +kernel
theorem dX5_selected_242 : decode cX5_selected 242 = .ok (.invokestatic 97, 3) := by decide +kernel
theorem dX5_selected_245 : decode cX5_selected 245 = .ok (.ireturn, 1) := by decide +kernel
theorem dX5_selected_246 : decode cX5_selected 246 = .ok (.aload_n 0, 1) := by decide +kernel
theorem dX5_selected_247 : decode cX5_selected 247 = .ok (.getfield 50, 3) := by decide +kernel
theorem dX5_selected_250 : decode cX5_selected 250 = .ok (.iload_n 2, 1) := by decide +kernel
theorem dX5_selected_251 : decode cX5_selected 251 = .ok (.iaload, 1) := by decide +kernel
theorem dX5_selected_252 : decode cX5_selected 252 = .ok (.bipush 7, 2) := by decide +kernel
theorem dX5_selected_254 : decode cX5_selected 254 = .ok (.if_icmp .ne 34, 3) := by decide +kernel
theorem dX5_selected_257 : decode cX5_selected 257 = .ok (.aload_n 0, 1) := by decide +kernel
theorem dX5_selected_258 : decode cX5_selected 258 = .ok (.getfield 44, 3) := by decide +kernel
theorem dX5_selected_261 : decode cX5_selected 261 = .ok (.iload 8, 2) := by decide +kernel
theorem dX5_selected_263 : decode cX5_selected 263 = .ok (.iaload, 1) := by decide +kernel
theorem dX5_selected_264 : decode cX5_selected 264 = .ok (.iconst 3, 1) := by decide +kernel
theorem dX5_selected_265 : decode cX5_selected 265 = .ok (.if_icmp .eq 23, 3) := by decide +kernel
theorem dX5_selected_268 : decode cX5_selected 268 = .ok (.aload_n 0, 1) := by decide +kernel
theorem dX5_selected_269 : decode cX5_selected 269 = .ok (.getfield 44, 3) := by decide +kernel
theorem dX5_selected_272 : decode cX5_selected 272 = .ok (.iload 8, 2) := by decide +kernel
theorem dX5_selected_274 : decode cX5_selected 274 = .ok (.iaload, 1) := by decide +kernel
theorem dX5_selected_275 : decode cX5_selected 275 = .ok (.ifCond .eq 13, 3) := by decide +kernel
theorem dX5_selected_278 : decode cX5_selected 278 = .ok (.iconst 4, 1) := by decide +kernel
theorem dX5_selected_279 : decode cX5_selected 279 = .ok (.bipush 16, 2) := by decide +kernel
theorem dX5_selected_281 : decode cX5_selected 281 = .ok (.iload 7, 2) := by decide +kernel
theorem dX5_selected_283 : decode cX5_selected 283 = .ok (.iadd, 1) := by decide +kernel
theorem dX5_selected_284 : decode cX5_selected 284 = .ok (.invokestatic 97, 3) := by decide +kernel
theorem dX5_selected_287 : decode cX5_selected 287 = .ok (.ireturn, 1) := by decide +kernel
theorem dX5_selected_288 : decode cX5_selected 288 = .ok (.iconst 0, 1) := by decide +kernel
theorem dX5_selected_289 : decode cX5_selected 289 = .ok (.bipush 16, 2) := by decide +kernel
theorem dX5_selected_291 : decode cX5_selected 291 = .ok (.iload 7, 2) := by decide +kernel
theorem dX5_selected_293 : decode cX5_selected 293 = .ok (.iadd, 1) := by decide +kernel
theorem dX5_selected_294 : decode cX5_selected 294 = .ok (.invokestatic 97, 3) := by decide +kernel
theorem dX5_selected_297 : decode cX5_selected 297 = .ok (.ireturn, 1) := by decide +kernel
set_option maxRecDepth 20000 in
theorem ggX5_isAsk_X5_in : GoodIn wsX5_isAsk wsX5_in := goodIn_r _ [5] (by decide +kernel) (by decide +kernel)
set_option maxRecDepth 20000 in
theorem gX5_isAsk_X5_in : GoodIn wsX5_isAsk (va_wsS RX5 72 yX5_in wsX5_in) := goodIn_app (goodIn_of _ (by decide +kernel)) ggX5_isAsk_X5_in
theorem dX5_isAsk_0 : decode cX5_isAsk 0 = .ok (.iload_n 1, 1) := by decide +kernel
theorem dX5_isAsk_1 : decode cX5_isAsk 1 = .ok (.iconst 2, 1) := by decide +kernel
theorem dX5_isAsk_2 : decode cX5_isAsk 2 = .ok (.invokestatic 72, 3) := by decide +kernel
theorem dX5_isAsk_5 : decode cX5_isAsk 5 = .ok (.ifCond .eq 18, 3) := by decide +kernel
theorem dX5_isAsk_8 : decode cX5_isAsk 8 = .ok (.iload_n 2, 1) := by decide +kernel
theorem dX5_isAsk_9 : decode cX5_isAsk 9 = .ok (.aload_n 0, 1) := by decide +kernel
theorem dX5_isAsk_10 : decode cX5_isAsk 10 = .ok (.getfield 91, 3) := by decide +kernel
theorem dX5_isAsk_13 : decode cX5_isAsk 13 = .ok (.invokestatic 72, 3) := by decide +kernel
theorem dX5_isAsk_16 : decode cX5_isAsk 16 = .ok (.ifCond .eq 7, 3) := by decide +kernel
theorem dX5_isAsk_19 : decode cX5_isAsk 19 = .ok (.iconst 1, 1) := by decide +kernel
theorem dX5_isAsk_20 : decode cX5_isAsk 20 = .ok (.goto 4, 3) := by decide +kernel
theorem dX5_isAsk_23 : decode cX5_isAsk 23 = .ok (.iconst 0, 1) := by decide +kernel
theorem dX5_isAsk_24 : decode cX5_isAsk 24 = .ok (.ireturn, 1) := by decide +kernel
set_option maxRecDepth 20000 in
theorem ggX5_load_X5_in : GoodIn wsX5_load wsX5_in := goodIn_r _ [4] (by decide +kernel) (by decide +kernel)
set_option maxRecDepth 20000 in
theorem gX5_load_X5_in : GoodIn wsX5_load (va_wsS RX5 72 yX5_in wsX5_in) := goodIn_app (goodIn_of _ (by decide +kernel)) ggX5_load_X5_in
set_option maxRecDepth 20000 in
theorem ggX5_load_X5_loaded : GoodIn wsX5_load wsX5_loaded := goodIn_r _ [8, 9, 10, 11, 12, 13, 14, 15, 3, 16, 17, 18, 19, 20, 21, 22, 23, 24, 25, 26, 27, 28, 29, 30, 31, 32, 33, 34, 35, 36, 37, 38, 39, 40, 41, 42, 43, 44, 45] (by decide +kernel) (by decide +kernel)
set_option maxRecDepth 20000 in
theorem gX5_load_X5_loaded : GoodIn wsX5_load (wsV RX5 104 RX5 yX5_loaded wsX5_loaded) := goodIn_app (goodIn_of _ (by decide +kernel)) ggX5_load_X5_loaded
theorem dX5_load_0 : decode cX5_load 0 = .ok (.iload_n 1, 1) := by decide +kernel
theorem dX5_load_1 : decode cX5_load 1 = .ok (.iconst 2, 1) := by decide +kernel
theorem dX5_load_2 : decode cX5_load 2 = .ok (.invokestatic 72, 3) := by decide +kernel
theorem dX5_load_5 : decode cX5_load 5 = .ok (.ifCond .eq 21, 3) := by decide +kernel
theorem dX5_load_8 : decode cX5_load 8 = .ok (.iload_n 2, 1) := by decide +kernel
theorem dX5_load_9 : decode cX5_load 9 = .ok (.bipush 12, 2) := by decide +kernel
theorem dX5_load_11 : decode cX5_load 11 = .ok (.invokestatic 72, 3) := by decide +kernel
theorem dX5_load_14 : decode cX5_load 14 = .ok (.ifCond .eq 12, 3) := by decide +kernel
theorem dX5_load_17 : decode cX5_load 17 = .ok (.aload_n 0, 1) := by decide +kernel
theorem dX5_load_18 : decode cX5_load 18 = .ok (.iload_n 1, 1) := by decide +kernel
theorem dX5_load_19 : decode cX5_load 19 = .ok (.iload_n 2, 1) := by decide +kernel
theorem dX5_load_20 : decode cX5_load 20 = .ok (.invokevirtual 104, 3) := by decide +kernel
theorem dX5_load_23 : decode cX5_load 23 = .ok (.goto 4, 3) := by decide +kernel
theorem dX5_load_26 : decode cX5_load 26 = .ok (.iconst (-1), 1) := by decide +kernel
theorem dX5_load_27 : decode cX5_load 27 = .ok (.ireturn, 1) := by decide +kernel
set_option maxRecDepth 20000 in
theorem ggX5_resolve_X5_isAsk : GoodIn wsX5_resolve wsX5_isAsk := goodIn_r _ [5, 6, 7, 8, 4, 9, 95, 96, 97, 98, 99, 100, 101, 102, 103, 104, 105, 106, 107, 108, 109, 110, 111, 112, 113, 114, 115] (by decide +kernel) (by decide +kernel)
set_option maxRecDepth 20000 in
theorem gX5_resolve_X5_isAsk : GoodIn wsX5_resolve (wsV RX5 152 RX5 yX5_isAsk wsX5_isAsk) := goodIn_app (goodIn_of _ (by decide +kernel)) ggX5_resolve_X5_isAsk
set_option maxRecDepth 20000 in
theorem ggX5_resolve_X5_resolved : GoodIn wsX5_resolve wsX5_resolved := goodIn_r _ [13, 14, 15, 16, 17, 18, 19, 20, 21, 22, 23, 24, 4, 25, 26, 27, 28, 29, 30, 31, 32, 33, 34, 35, 36, 37, 38, 39, 40, 41, 42, 43, 44, 45, 46, 47, 48, 49, 50, 51, 52, 53, 54, 55, 56, 57, 58, 59, 60, 61, 62, 63, 64, 65, 66, 67, 68, 69, 70, 71, 72, 73, 74, 75, 76, 77, 78, 79, 80, 81, 82, 83, 84, 85, 86, 87, 88, 89, 90, 91, 92, 93, 94, 95, 96, 97, 98, 99, 100, 101, 102, 103, 104, 105, 106, 107, 108, 109, 110, 111, 112, 113, 114, 115] (by decide +kernel) (by decide +kernel)
set_option maxRecDepth 20000 in
theorem gX5_resolve_X5_resolved : GoodIn wsX5_resolve (wsV RX5 143 RX5 yX5_resolved wsX5_resolved) := goodIn_app (goodIn_of _ (by decide +kernel)) ggX5_resolve_X5_resolved
theorem dX5_resolve_0 : decode cX5_resolve 0 = .ok (.aload_n 0, 1) := by decide +kernel
theorem dX5_resolve_1 : decode cX5_resolve 1 = .ok (.iload_n 1, 1) := by decide +kernel
theorem dX5_resolve_2 : decode cX5_resolve 2 = .ok (.iload_n 2, 1) := by decide +kernel
theorem dX5_resolve_3 : decode cX5_resolve 3 = .ok (.invokevirtual 152, 3) := by decide +kernel
theorem dX5_resolve_6 : decode cX5_resolve 6 = .ok (.ifCond .eq 12, 3) := by decide +kernel
theorem dX5_resolve_9 : decode cX5_resolve 9 = .ok (.aload_n 0, 1) := by decide +kernel
theorem dX5_resolve_10 : decode cX5_resolve 10 = .ok (.iload_n 1, 1) := by decide +kernel
theorem dX5_resolve_11 : decode cX5_resolve 11 = .ok (.iload_n 2, 1) := by decide +kernel
theorem dX5_resolve_12 : decode cX5_resolve 12 = .ok (.invokevirtual 143, 3) := by decide +kernel
theorem dX5_resolve_15 : decode cX5_resolve 15 = .ok (.goto 4, 3) := by decide +kernel
theorem dX5_resolve_18 : decode cX5_resolve 18 = .ok (.iconst (-1), 1) := by decide +kernel
theorem dX5_resolve_19 : decode cX5_resolve 19 = .ok (.ireturn, 1) := by decide +kernel
set_option maxRecDepth 20000 in
theorem ggX5_selects_X5_resolved : GoodIn wsX5_selects wsX5_resolved := goodIn_r _ [6, 1, 7, 8, 9, 10, 11, 12, 13, 14, 15, 16, 5, 17, 18, 19, 20, 21, 22, 23, 24, 25, 26, 27, 28, 29, 30, 31, 32, 33, 34, 35, 36, 37, 38, 39, 40, 41, 42, 43, 44, 45, 46, 47, 48, 49, 50, 51, 52, 53, 54, 55, 56, 57, 58, 59, 60, 61, 62, 63, 64, 65, 66, 67, 68, 69, 70, 71, 72, 73, 74, 75, 76, 77, 78, 79, 80, 81, 82, 83, 84, 85, 86, 87, 88, 89, 90, 91, 92, 93, 94, 95, 96, 97, 98, 99, 100, 101, 102, 103, 104, 105, 106, 107] (by decide +kernel) (by decide +kernel)
set_option maxRecDepth 20000 in
theorem gX5_selects_X5_resolved : GoodIn wsX5_selects (wsV RX5 143 RX5 yX5_resolved wsX5_resolved) := goodIn_app (goodIn_of _ (by decide +kernel)) ggX5_selects_X5_resolved
theorem dX5_selects_0 : decode cX5_selects 0 = .ok (.aload_n 0, 1) := by decide +kernel
theorem dX5_selects_1 : decode cX5_selects 1 = .ok (.getfield 50, 3) := by decide +kernel
theorem dX5_selects_4 : decode cX5_selects 4 = .ok (.iload_n 2, 1) := by decide +kernel
theorem dX5_selects_5 : decode cX5_selects 5 = .ok (.iaload, 1) := by decide +kernel
theorem dX5_selects_6 : decode cX5_selects 6 = .ok (.iconst 4, 1) := by decide +kernel
theorem dX5_selects_7 : decode cX5_selects 7 = .ok (.if_icmp .eq 14, 3) := by decide +kernel
theorem dX5_selects_10 : decode cX5_selects 10 = .ok (.aload_n 0, 1) := by decide +kernel
theorem dX5_selects_11 : decode cX5_selects 11 = .ok (.getfield 50, 3) := by decide +kernel
theorem dX5_selects_14 : decode cX5_selects 14 = .ok (.iload_n 2, 1) := by decide +kernel
theorem dX5_selects_15 : decode cX5_selects 15 = .ok (.iaload, 1) := by decide +kernel
theorem dX5_selects_16 : decode cX5_selects 16 = .ok (.bipush 7, 2) := by decide +kernel
theorem dX5_selects_18 : decode cX5_selects 18 = .ok (.if_icmp .ne 18, 3) := by decide +kernel
theorem dX5_selects_21 : decode cX5_selects 21 = .ok (.aload_n 0, 1) := by decide +kernel
theorem dX5_selects_22 : decode cX5_selects 22 = .ok (.iload_n 1, 1) := by decide +kernel
theorem dX5_selects_23 : decode cX5_selects 23 = .ok (.iload_n 2, 1) := by decide +kernel
theorem dX5_selects_24 : decode cX5_selects 24 = .ok (.invokevirtual 143, 3) := by decide +kernel
theorem dX5_selects_27 : decode cX5_selects 27 = .ok (.bipush 64, 2) := by decide +kernel
theorem dX5_selects_29 : decode cX5_selects 29 = .ok (.if_icmp .ge 7, 3) := by decide +kernel
theorem dX5_selects_32 : decode cX5_selects 32 = .ok (.iconst 1, 1) := by decide +kernel
theorem dX5_selects_33 : decode cX5_selects 33 = .ok (.goto 4, 3) := by decide +kernel
theorem dX5_selects_36 : decode cX5_selects 36 = .ok (.iconst 0, 1) := by decide +kernel
theorem dX5_selects_37 : decode cX5_selects 37 = .ok (.ireturn, 1) := by decide +kernel
set_option maxRecDepth 20000 in
theorem ggX5_select_X5_isAsk : GoodIn wsX5_select wsX5_isAsk := goodIn_r _ [5, 6, 7, 8, 4, 9, 111, 112, 113, 114, 115, 116, 117, 118, 119, 120, 121, 122, 123, 124, 125, 126, 127, 128, 129, 130, 131] (by decide +kernel) (by decide +kernel)
set_option maxRecDepth 20000 in
theorem gX5_select_X5_isAsk : GoodIn wsX5_select (wsV RX5 152 RX5 yX5_isAsk wsX5_isAsk) := goodIn_app (goodIn_of _ (by decide +kernel)) ggX5_select_X5_isAsk
set_option maxRecDepth 20000 in
theorem ggX5_select_X5_in : GoodIn wsX5_select wsX5_in := goodIn_r _ [9] (by decide +kernel) (by decide +kernel)
set_option maxRecDepth 20000 in
theorem gX5_select_X5_in : GoodIn wsX5_select (va_wsS RX5 72 yX5_in wsX5_in) := goodIn_app (goodIn_of _ (by decide +kernel)) ggX5_select_X5_in
set_option maxRecDepth 20000 in
theorem ggX5_select_X5_selects : GoodIn wsX5_select wsX5_selects := goodIn_r _ [13, 14, 15, 16, 17, 4, 18, 19, 20, 21, 22, 23, 24, 25, 26, 27, 28, 29, 30, 31, 32, 33, 34, 35, 36, 37, 38, 39, 40, 41, 42, 43, 44, 45, 46, 47, 48, 49, 50, 51, 52, 53, 54, 55, 56, 57, 58, 59, 60, 61, 62, 63, 64, 65, 66, 67, 68, 69, 70, 71, 72, 73, 74, 75, 76, 77, 78, 79, 80, 81, 82, 83, 84, 85, 86, 87, 88, 89, 90, 91, 92, 93, 94, 95, 96, 97, 98, 111, 112, 113, 114, 115, 116, 117, 118, 119, 120, 121, 122, 123, 124, 125, 126, 127, 128, 129, 130, 131] (by decide +kernel) (by decide +kernel)
set_option maxRecDepth 20000 in
theorem gX5_select_X5_selects : GoodIn wsX5_select (wsV RX5 155 RX5 yX5_selects wsX5_selects) := goodIn_app (goodIn_of _ (by decide +kernel)) ggX5_select_X5_selects
set_option maxRecDepth 20000 in
theorem ggX5_select_X5_selected : GoodIn wsX5_select wsX5_selected := goodIn_r _ [102, 23, 21, 20, 65, 33, 24, 14, 15, 16, 17, 4, 18, 19, 22, 25, 26, 27, 28, 29, 30, 31, 32, 34, 35, 36, 37, 38, 39, 40, 41, 42, 43, 44, 45, 46, 47, 48, 49, 50, 51, 52, 53, 54, 55, 56, 57, 58, 59, 60, 61, 62, 63, 64, 66, 67, 68, 69, 70, 71, 72, 73, 74, 75, 76, 77, 78, 79, 80, 81, 82, 83, 84, 85, 86, 87, 88, 89, 90, 91, 92, 93, 94, 95, 96, 97, 98, 103, 104, 105, 106, 107, 108, 109, 110, 111, 112, 113, 114, 115, 116, 117, 118, 119, 120, 121, 122, 123, 124, 125, 126, 127, 128, 129, 130, 131] (by decide +kernel) (by decide +kernel)
set_option maxRecDepth 20000 in
theorem gX5_select_X5_selected : GoodIn wsX5_select (wsV RX5 158 RX5 yX5_selected wsX5_selected) := goodIn_app (goodIn_of _ (by decide +kernel)) ggX5_select_X5_selected
theorem dX5_select_0 : decode cX5_select 0 = .ok (.aload_n 0, 1) := by decide +kernel
theorem dX5_select_1 : decode cX5_select 1 = .ok (.iload_n 1, 1) := by decide +kernel
theorem dX5_select_2 : decode cX5_select 2 = .ok (.iload_n 2, 1) := by decide +kernel
theorem dX5_select_3 : decode cX5_select 3 = .ok (.invokevirtual 152, 3) := by decide +kernel
theorem dX5_select_6 : decode cX5_select 6 = .ok (.ifCond .eq 12, 3) := by decide +kernel
theorem dX5_select_9 : decode cX5_select 9 = .ok (.iload_n 3, 1) := by decide +kernel
theorem dX5_select_10 : decode cX5_select 10 = .ok (.bipush 12, 2) := by decide +kernel
theorem dX5_select_12 : decode cX5_select 12 = .ok (.invokestatic 72, 3) := by decide +kernel
theorem dX5_select_15 : decode cX5_select 15 = .ok (.ifCond .ne 5, 3) := by decide +kernel
theorem dX5_select_18 : decode cX5_select 18 = .ok (.iconst (-1), 1) := by decide +kernel
theorem dX5_select_19 : decode cX5_select 19 = .ok (.ireturn, 1) := by decide +kernel
theorem dX5_select_20 : decode cX5_select 20 = .ok (.aload_n 0, 1) := by decide +kernel
theorem dX5_select_21 : decode cX5_select 21 = .ok (.iload_n 1, 1) := by decide +kernel
theorem dX5_select_22 : decode cX5_select 22 = .ok (.iload_n 2, 1) := by decide +kernel
theorem dX5_select_23 : decode cX5_select 23 = .ok (.invokevirtual 155, 3) := by decide +kernel
theorem dX5_select_26 : decode cX5_select 26 = .ok (.ifCond .eq 13, 3) := by decide +kernel
theorem dX5_select_29 : decode cX5_select 29 = .ok (.aload_n 0, 1) := by decide +kernel
theorem dX5_select_30 : decode cX5_select 30 = .ok (.iload_n 1, 1) := by decide +kernel
theorem dX5_select_31 : decode cX5_select 31 = .ok (.iload_n 2, 1) := by decide +kernel
theorem dX5_select_32 : decode cX5_select 32 = .ok (.iload_n 3, 1) := by decide +kernel
theorem dX5_select_33 : decode cX5_select 33 = .ok (.invokevirtual 158, 3) := by decide +kernel
theorem dX5_select_36 : decode cX5_select 36 = .ok (.goto 5, 3) := by decide +kernel
theorem dX5_select_39 : decode cX5_select 39 = .ok (.bipush (-2), 2) := by decide +kernel
theorem dX5_select_41 : decode cX5_select 41 = .ok (.ireturn, 1) := by decide +kernel
theorem dX5_areAlike_0 : decode cX5_areAlike 0 = .ok (.iload_n 1, 1) := by decide +kernel
theorem dX5_areAlike_1 : decode cX5_areAlike 1 = .ok (.bipush 64, 2) := by decide +kernel
theorem dX5_areAlike_3 : decode cX5_areAlike 3 = .ok (.idiv, 1) := by decide +kernel
theorem dX5_areAlike_4 : decode cX5_areAlike 4 = .ok (.iload_n 2, 1) := by decide +kernel
theorem dX5_areAlike_5 : decode cX5_areAlike 5 = .ok (.bipush 64, 2) := by decide +kernel
theorem dX5_areAlike_7 : decode cX5_areAlike 7 = .ok (.idiv, 1) := by decide +kernel
theorem dX5_areAlike_8 : decode cX5_areAlike 8 = .ok (.if_icmp .eq 5, 3) := by decide +kernel
theorem dX5_areAlike_11 : decode cX5_areAlike 11 = .ok (.iconst 0, 1) := by decide +kernel
theorem dX5_areAlike_12 : decode cX5_areAlike 12 = .ok (.ireturn, 1) := by decide +kernel
theorem dX5_areAlike_13 : decode cX5_areAlike 13 = .ok (.iload_n 1, 1) := by decide +kernel
theorem dX5_areAlike_14 : decode cX5_areAlike 14 = .ok (.bipush 64, 2) := by decide +kernel
theorem dX5_areAlike_16 : decode cX5_areAlike 16 = .ok (.irem, 1) := by decide +kernel
theorem dX5_areAlike_17 : decode cX5_areAlike 17 = .ok (.istore_n 3, 1) := by decide +kernel
theorem dX5_areAlike_18 : decode cX5_areAlike 18 = .ok (.iload_n 2, 1) := by decide +kernel
theorem dX5_areAlike_19 : decode cX5_areAlike 19 = .ok (.bipush 64, 2) := by decide +kernel
theorem dX5_areAlike_21 : decode cX5_areAlike 21 = .ok (.irem, 1) := by decide +kernel
theorem dX5_areAlike_22 : decode cX5_areAlike 22 = .ok (.istore 4, 2) := by decide +kernel
theorem dX5_areAlike_24 : decode cX5_areAlike 24 = .ok (.iload_n 3, 1) := by decide +kernel
theorem dX5_areAlike_25 : decode cX5_areAlike 25 = .ok (.bipush 16, 2) := by decide +kernel
theorem dX5_areAlike_27 : decode cX5_areAlike 27 = .ok (.if_icmp .lt 10, 3) := by decide +kernel
theorem dX5_areAlike_30 : decode cX5_areAlike 30 = .ok (.iload 4, 2) := by decide +kernel
theorem dX5_areAlike_32 : decode cX5_areAlike 32 = .ok (.bipush 16, 2) := by decide +kernel
theorem dX5_areAlike_34 : decode cX5_areAlike 34 = .ok (.if_icmp .ge 15, 3) := by decide +kernel
theorem dX5_areAlike_37 : decode cX5_areAlike 37 = .ok (.iload_n 3, 1) := by decide +kernel
theorem dX5_areAlike_38 : decode cX5_areAlike 38 = .ok (.iload 4, 2) := by decide +kernel
theorem dX5_areAlike_40 : decode cX5_areAlike 40 = .ok (.if_icmp .ne 7, 3) := by decide +kernel
theorem dX5_areAlike_43 : decode cX5_areAlike 43 = .ok (.iconst 1, 1) := by decide +kernel
theorem dX5_areAlike_44 : decode cX5_areAlike 44 = .ok (.goto 4, 3) := by decide +kernel
theorem dX5_areAlike_47 : decode cX5_areAlike 47 = .ok (.iconst 0, 1) := by decide +kernel
theorem dX5_areAlike_48 : decode cX5_areAlike 48 = .ok (.ireturn, 1) := by decide +kernel
theorem dX5_areAlike_49 : decode cX5_areAlike 49 = .ok (.iload_n 3, 1) := by decide +kernel
theorem dX5_areAlike_50 : decode cX5_areAlike 50 = .ok (.bipush 16, 2) := by decide +kernel
theorem dX5_areAlike_52 : decode cX5_areAlike 52 = .ok (.isub, 1) := by decide +kernel
theorem dX5_areAlike_53 : decode cX5_areAlike 53 = .ok (.istore 5, 2) := by decide +kernel
theorem dX5_areAlike_55 : decode cX5_areAlike 55 = .ok (.bipush 30, 2) := by decide +kernel
theorem dX5_areAlike_57 : decode cX5_areAlike 57 = .ok (.iload 4, 2) := by decide +kernel
theorem dX5_areAlike_59 : decode cX5_areAlike 59 = .ok (.iadd, 1) := by decide +kernel
theorem dX5_areAlike_60 : decode cX5_areAlike 60 = .ok (.bipush 16, 2) := by decide +kernel
theorem dX5_areAlike_62 : decode cX5_areAlike 62 = .ok (.isub, 1) := by decide +kernel
theorem dX5_areAlike_63 : decode cX5_areAlike 63 = .ok (.istore 6, 2) := by decide +kernel
theorem dX5_areAlike_65 : decode cX5_areAlike 65 = .ok (.aload_n 0, 1) := by decide +kernel
theorem dX5_areAlike_66 : decode cX5_areAlike 66 = .ok (.getfield 38, 3) := by decide +kernel
theorem dX5_areAlike_69 : decode cX5_areAlike 69 = .ok (.iload 5, 2) := by decide +kernel
theorem dX5_areAlike_71 : decode cX5_areAlike 71 = .ok (.iaload, 1) := by decide +kernel
theorem dX5_areAlike_72 : decode cX5_areAlike 72 = .ok (.aload_n 0, 1) := by decide +kernel
theorem dX5_areAlike_73 : decode cX5_areAlike 73 = .ok (.getfield 38, 3) := by decide +kernel
theorem dX5_areAlike_76 : decode cX5_areAlike 76 = .ok (.iload 6, 2) := by decide +kernel
theorem dX5_areAlike_78 : decode cX5_areAlike 78 = .ok (.iaload, 1) := by decide +kernel
theorem dX5_areAlike_79 : decode cX5_areAlike 79 = .ok (.if_icmp .ne 41, 3) := by decide +kernel
theorem dX5_areAlike_82 : decode cX5_areAlike 82 = .ok (.aload_n 0, 1) := by decide +kernel
theorem dX5_areAlike_83 : decode cX5_areAlike 83 = .ok (.getfield 29, 3) := by decide +kernel
theorem dX5_areAlike_86 : decode cX5_areAlike 86 = .ok (.iload 5, 2) := by decide +kernel
theorem dX5_areAlike_88 : decode cX5_areAlike 88 = .ok (.baload, 1) := by decide +kernel
theorem dX5_areAlike_89 : decode cX5_areAlike 89 = .ok (.aload_n 0, 1) := by decide +kernel
theorem dX5_areAlike_90 : decode cX5_areAlike 90 = .ok (.getfield 29, 3) := by decide +kernel
theorem dX5_areAlike_93 : decode cX5_areAlike 93 = .ok (.iload 6, 2) := by decide +kernel
theorem dX5_areAlike_95 : decode cX5_areAlike 95 = .ok (.baload, 1) := by decide +kernel
theorem dX5_areAlike_96 : decode cX5_areAlike 96 = .ok (.if_icmp .ne 24, 3) := by decide +kernel
theorem dX5_areAlike_99 : decode cX5_areAlike 99 = .ok (.aload_n 0, 1) := by decide +kernel
theorem dX5_areAlike_100 : decode cX5_areAlike 100 = .ok (.getfield 41, 3) := by decide +kernel
theorem dX5_areAlike_103 : decode cX5_areAlike 103 = .ok (.iload 5, 2) := by decide +kernel
theorem dX5_areAlike_105 : decode cX5_areAlike 105 = .ok (.iaload, 1) := by decide +kernel
theorem dX5_areAlike_106 : decode cX5_areAlike 106 = .ok (.aload_n 0, 1) := by decide +kernel
theorem dX5_areAlike_107 : decode cX5_areAlike 107 = .ok (.getfield 41, 3) := by decide +kernel
theorem dX5_areAlike_110 : decode cX5_areAlike 110 = .ok (.iload 6, 2) := by decide +kernel
theorem dX5_areAlike_112 : decode cX5_areAlike 112 = .ok (.iaload, 1) := by decide +kernel
theorem dX5_areAlike_113 : decode cX5_areAlike 113 = .ok (.if_icmp .ne 7, 3) := by decide +kernel
theorem dX5_areAlike_116 : decode cX5_areAlike 116 = .ok (.iconst 1, 1) := by decide +kernel
theorem dX5_areAlike_117 : decode cX5_areAlike 117 = .ok (.goto 4, 3) := by decide +kernel
theorem dX5_areAlike_120 : decode cX5_areAlike 120 = .ok (.iconst 0, 1) := by decide +kernel
theorem dX5_areAlike_121 : decode cX5_areAlike 121 = .ok (.ireturn, 1) := by decide +kernel
set_option maxRecDepth 20000 in
theorem ggX5_compare_X5_in : GoodIn wsX5_compare wsX5_in := goodIn_r _ [5] (by decide +kernel) (by decide +kernel)
set_option maxRecDepth 20000 in
theorem gX5_compare_X5_in : GoodIn wsX5_compare (va_wsS RX5 72 yX5_in wsX5_in) := goodIn_app (goodIn_of _ (by decide +kernel)) ggX5_compare_X5_in
set_option maxRecDepth 20000 in
theorem ggX5_compare_X5_resolved : GoodIn wsX5_compare wsX5_resolved := goodIn_r _ [9, 10, 11, 12, 13, 14, 15, 16, 17, 18, 19, 20, 4, 21, 22, 23, 24, 25, 26, 27, 28, 29, 30, 31, 32, 33, 34, 35, 36, 37, 38, 39, 40, 41, 42, 43, 44, 45, 46, 47, 48, 49, 50, 51, 52, 53, 54, 55, 56, 57, 58, 59, 60, 61, 62, 63, 64, 65, 66, 67, 68, 69, 70, 71, 72, 73, 74, 75, 76, 77, 78, 79, 80, 81, 82, 83, 84, 85, 86, 87, 88, 89, 90, 95, 96, 97, 98, 99, 100, 101, 102, 103, 104, 105, 106, 107, 108, 109, 110, 111, 112, 113, 114, 115] (by decide +kernel) (by decide +kernel)
set_option maxRecDepth 20000 in
theorem gX5_compare_X5_resolved : GoodIn wsX5_compare (wsV RX5 143 RX5 yX5_resolved wsX5_resolved) := goodIn_app (goodIn_of _ (by decide +kernel)) ggX5_compare_X5_resolved
set_option maxRecDepth 20000 in
theorem ggX5_compare_X5_areAlike : GoodIn wsX5_compare wsX5_areAlike := goodIn_r _ [94, 17, 47, 48, 95, 96, 97, 98, 99, 100, 101, 102, 103, 104, 105, 106, 107, 108, 109, 110, 111, 112, 113, 114, 115] (by decide +kernel) (by decide +kernel)
set_option maxRecDepth 20000 in
theorem gX5_compare_X5_areAlike : GoodIn wsX5_compare (wsV RX5 161 RX5 yX5_areAlike wsX5_areAlike) := goodIn_app (goodIn_of _ (by decide +kernel)) ggX5_compare_X5_areAlike
theorem dX5_compare_0 : decode cX5_compare 0 = .ok (.iload_n 1, 1) := by decide +kernel
theorem dX5_compare_1 : decode cX5_compare 1 = .ok (.aload_n 0, 1) := by decide +kernel
theorem dX5_compare_2 : decode cX5_compare 2 = .ok (.getfield 91, 3) := by decide +kernel
theorem dX5_compare_5 : decode cX5_compare 5 = .ok (.invokestatic 72, 3) := by decide +kernel
theorem dX5_compare_8 : decode cX5_compare 8 = .ok (.ifCond .ne 5, 3) := by decide +kernel
theorem dX5_compare_11 : decode cX5_compare 11 = .ok (.iconst (-1), 1) := by decide +kernel
theorem dX5_compare_12 : decode cX5_compare 12 = .ok (.ireturn, 1) := by decide +kernel
theorem dX5_compare_13 : decode cX5_compare 13 = .ok (.aload_n 0, 1) := by decide +kernel
theorem dX5_compare_14 : decode cX5_compare 14 = .ok (.iconst 0, 1) := by decide +kernel
theorem dX5_compare_15 : decode cX5_compare 15 = .ok (.iload_n 1, 1) := by decide +kernel
theorem dX5_compare_16 : decode cX5_compare 16 = .ok (.invokevirtual 143, 3) := by decide +kernel
theorem dX5_compare_19 : decode cX5_compare 19 = .ok (.istore_n 2, 1) := by decide +kernel
theorem dX5_compare_20 : decode cX5_compare 20 = .ok (.aload_n 0, 1) := by decide +kernel
theorem dX5_compare_21 : decode cX5_compare 21 = .ok (.iconst 1, 1) := by decide +kernel
theorem dX5_compare_22 : decode cX5_compare 22 = .ok (.iload_n 1, 1) := by decide +kernel
theorem dX5_compare_23 : decode cX5_compare 23 = .ok (.invokevirtual 143, 3) := by decide +kernel
theorem dX5_compare_26 : decode cX5_compare 26 = .ok (.istore_n 3, 1) := by decide +kernel
theorem dX5_compare_27 : decode cX5_compare 27 = .ok (.aload_n 0, 1) := by decide +kernel
theorem dX5_compare_28 : decode cX5_compare 28 = .ok (.iload_n 2, 1) := by decide +kernel
theorem dX5_compare_29 : decode cX5_compare 29 = .ok (.iload_n 3, 1) := by decide +kernel
theorem dX5_compare_30 : decode cX5_compare 30 = .ok (.invokevirtual 161, 3) := by decide +kernel
theorem dX5_compare_33 : decode cX5_compare 33 = .ok (.ifCond .eq 5, 3) := by decide +kernel
theorem dX5_compare_36 : decode cX5_compare 36 = .ok (.iconst 0, 1) := by decide +kernel
theorem dX5_compare_37 : decode cX5_compare 37 = .ok (.ireturn, 1) := by decide +kernel
theorem dX5_compare_38 : decode cX5_compare 38 = .ok (.iload_n 2, 1) := by decide +kernel
theorem dX5_compare_39 : decode cX5_compare 39 = .ok (.bipush 64, 2) := by decide +kernel
theorem dX5_compare_41 : decode cX5_compare 41 = .ok (.if_icmp .ge 17, 3) := by decide +kernel
theorem dX5_compare_44 : decode cX5_compare 44 = .ok (.iload_n 3, 1) := by decide +kernel
theorem dX5_compare_45 : decode cX5_compare 45 = .ok (.bipush 64, 2) := by decide +kernel
theorem dX5_compare_47 : decode cX5_compare 47 = .ok (.if_icmp .ge 7, 3) := by decide +kernel
theorem dX5_compare_50 : decode cX5_compare 50 = .ok (.iconst 3, 1) := by decide +kernel
theorem dX5_compare_51 : decode cX5_compare 51 = .ok (.goto 18, 3) := by decide +kernel
theorem dX5_compare_54 : decode cX5_compare 54 = .ok (.iconst 1, 1) := by decide +kernel
theorem dX5_compare_55 : decode cX5_compare 55 = .ok (.goto 14, 3) := by decide +kernel
theorem dX5_compare_58 : decode cX5_compare 58 = .ok (.iload_n 3, 1) := by decide +kernel
theorem dX5_compare_59 : decode cX5_compare 59 = .ok (.bipush 64, 2) := by decide +kernel
theorem dX5_compare_61 : decode cX5_compare 61 = .ok (.if_icmp .ge 7, 3) := by decide +kernel
theorem dX5_compare_64 : decode cX5_compare 64 = .ok (.iconst 2, 1) := by decide +kernel
theorem dX5_compare_65 : decode cX5_compare 65 = .ok (.goto 4, 3) := by decide +kernel
theorem dX5_compare_68 : decode cX5_compare 68 = .ok (.iconst 4, 1) := by decide +kernel
theorem dX5_compare_69 : decode cX5_compare 69 = .ok (.ireturn, 1) := by decide +kernel
set_option maxRecDepth 20000 in
theorem ggX5_receivers_X5_in : GoodIn wsX5_receivers wsX5_in := goodIn_r _ [6] (by decide +kernel) (by decide +kernel)
set_option maxRecDepth 20000 in
theorem gX5_receivers_X5_in : GoodIn wsX5_receivers (va_wsS RX5 72 yX5_in wsX5_in) := goodIn_app (goodIn_of _ (by decide +kernel)) ggX5_receivers_X5_in
set_option maxRecDepth 20000 in
theorem ggX5_receivers_X5_selects : GoodIn wsX5_receivers wsX5_selects := goodIn_r _ [10, 2, 11, 12, 13, 5, 14, 15, 16, 17, 18, 19, 20, 21, 22, 23, 24, 25, 26, 27, 28, 29, 30, 31, 32, 33, 34, 35, 36, 37, 38, 39, 40, 41, 42, 43, 44, 45, 46, 47, 48, 49, 50, 51, 52, 53, 54, 55, 56, 57, 58, 59, 60, 61, 62, 63, 64, 65, 66, 67, 68, 69, 70, 71, 72, 73, 74, 75, 76, 77, 78, 79, 80, 81, 82, 83, 84, 85, 86, 87, 88, 89, 90, 91, 92, 93, 94, 111, 112, 113, 114, 115, 116, 117, 118, 119, 120, 121, 122, 123, 124, 125, 126, 127, 128, 129, 130, 131] (by decide +kernel) (by decide +kernel)
set_option maxRecDepth 20000 in
theorem gX5_receivers_X5_selects : GoodIn wsX5_receivers (wsV RX5 155 RX5 yX5_selects wsX5_selects) := goodIn_app (goodIn_of _ (by decide +kernel)) ggX5_receivers_X5_selects
set_option maxRecDepth 20000 in
theorem ggX5_receivers_X5_selected : GoodIn wsX5_receivers wsX5_selected := goodIn_r _ [98, 19, 17, 16, 61, 29, 20, 2, 11, 12, 13, 5, 14, 15, 18, 21, 22, 23, 24, 25, 26, 27, 28, 30, 31, 32, 33, 34, 35, 36, 37, 38, 39, 40, 41, 42, 43, 44, 45, 46, 47, 48, 49, 50, 51, 52, 53, 54, 55, 56, 57, 58, 59, 60, 62, 63, 64, 65, 66, 67, 68, 69, 70, 71, 72, 73, 74, 75, 76, 77, 78, 79, 80, 81, 82, 83, 84, 85, 86, 87, 88, 89, 90, 91, 92, 93, 94, 99, 100, 101, 102, 103, 104, 105, 106, 111, 112, 113, 114, 115, 116, 117, 118, 119, 120, 121, 122, 123, 124, 125, 126, 127, 128, 129, 130, 131] (by decide +kernel) (by decide +kernel)
set_option maxRecDepth 20000 in
theorem gX5_receivers_X5_selected : GoodIn wsX5_receivers (wsV RX5 158 RX5 yX5_selected wsX5_selected) := goodIn_app (goodIn_of _ (by decide +kernel)) ggX5_receivers_X5_selected
set_option maxRecDepth 20000 in
theorem ggX5_receivers_X5_areAlike : GoodIn wsX5_receivers wsX5_areAlike := goodIn_r _ [110, 21, 51, 52, 111, 112, 113, 114, 115, 116, 117, 118, 119, 120, 121, 122, 123, 124, 125, 126, 127, 128, 129, 130, 131] (by decide +kernel) (by decide +kernel)
set_option maxRecDepth 20000 in
theorem gX5_receivers_X5_areAlike : GoodIn wsX5_receivers (wsV RX5 161 RX5 yX5_areAlike wsX5_areAlike) := goodIn_app (goodIn_of _ (by decide +kernel)) ggX5_receivers_X5_areAlike
theorem dX5_receivers_0 : decode cX5_receivers 0 = .ok (.iload_n 1, 1) := by decide +kernel
theorem dX5_receivers_1 : decode cX5_receivers 1 = .ok (.aload_n 0, 1) := by decide +kernel
theorem dX5_receivers_2 : decode cX5_receivers 2 = .ok (.getfield 91, 3) := by decide +kernel
theorem dX5_receivers_5 : decode cX5_receivers 5 = .ok (.invokestatic 72, 3) := by decide +kernel
theorem dX5_receivers_8 : decode cX5_receivers 8 = .ok (.ifCond .eq 11, 3) := by decide +kernel
theorem dX5_receivers_11 : decode cX5_receivers 11 = .ok (.iload_n 2, 1) := by decide +kernel
theorem dX5_receivers_12 : decode cX5_receivers 12 = .ok (.iconst 4, 1) := by decide +kernel
theorem dX5_receivers_13 : decode cX5_receivers 13 = .ok (.invokestatic 72, 3) := by decide +kernel
theorem dX5_receivers_16 : decode cX5_receivers 16 = .ok (.ifCond .ne 5, 3) := by decide +kernel
theorem dX5_receivers_19 : decode cX5_receivers 19 = .ok (.iconst (-1), 1) := by decide +kernel
theorem dX5_receivers_20 : decode cX5_receivers 20 = .ok (.ireturn, 1) := by decide +kernel
theorem dX5_receivers_21 : decode cX5_receivers 21 = .ok (.iconst 0, 1) := by decide +kernel
theorem dX5_receivers_22 : decode cX5_receivers 22 = .ok (.istore_n 3, 1) := by decide +kernel
theorem dX5_receivers_23 : decode cX5_receivers 23 = .ok (.iconst 0, 1) := by decide +kernel
theorem dX5_receivers_24 : decode cX5_receivers 24 = .ok (.istore 4, 2) := by decide +kernel
theorem dX5_receivers_26 : decode cX5_receivers 26 = .ok (.iload 4, 2) := by decide +kernel
theorem dX5_receivers_28 : decode cX5_receivers 28 = .ok (.bipush 12, 2) := by decide +kernel
theorem dX5_receivers_30 : decode cX5_receivers 30 = .ok (.if_icmp .ge 175, 3) := by decide +kernel
theorem dX5_receivers_33 : decode cX5_receivers 33 = .ok (.aload_n 0, 1) := by decide +kernel
theorem dX5_receivers_34 : decode cX5_receivers 34 = .ok (.getfield 50, 3) := by decide +kernel
theorem dX5_receivers_37 : decode cX5_receivers 37 = .ok (.iload_n 1, 1) := by decide +kernel
theorem dX5_receivers_38 : decode cX5_receivers 38 = .ok (.iaload, 1) := by decide +kernel
theorem dX5_receivers_39 : decode cX5_receivers 39 = .ok (.iconst 4, 1) := by decide +kernel
theorem dX5_receivers_40 : decode cX5_receivers 40 = .ok (.if_icmp .eq 14, 3) := by decide +kernel
theorem dX5_receivers_43 : decode cX5_receivers 43 = .ok (.aload_n 0, 1) := by decide +kernel
theorem dX5_receivers_44 : decode cX5_receivers 44 = .ok (.getfield 50, 3) := by decide +kernel
theorem dX5_receivers_47 : decode cX5_receivers 47 = .ok (.iload_n 1, 1) := by decide +kernel
theorem dX5_receivers_48 : decode cX5_receivers 48 = .ok (.iaload, 1) := by decide +kernel
theorem dX5_receivers_49 : decode cX5_receivers 49 = .ok (.bipush 7, 2) := by decide +kernel
theorem dX5_receivers_51 : decode cX5_receivers 51 = .ok (.if_icmp .ne 154, 3) := by decide +kernel
theorem dX5_receivers_54 : decode cX5_receivers 54 = .ok (.aload_n 0, 1) := by decide +kernel
theorem dX5_receivers_55 : decode cX5_receivers 55 = .ok (.iconst 0, 1) := by decide +kernel
theorem dX5_receivers_56 : decode cX5_receivers 56 = .ok (.iload_n 1, 1) := by decide +kernel
theorem dX5_receivers_57 : decode cX5_receivers 57 = .ok (.invokevirtual 155, 3) := by decide +kernel
theorem dX5_receivers_60 : decode cX5_receivers 60 = .ok (.ifCond .eq 14, 3) := by decide +kernel
theorem dX5_receivers_63 : decode cX5_receivers 63 = .ok (.aload_n 0, 1) := by decide +kernel
theorem dX5_receivers_64 : decode cX5_receivers 64 = .ok (.iconst 0, 1) := by decide +kernel
theorem dX5_receivers_65 : decode cX5_receivers 65 = .ok (.iload_n 1, 1) := by decide +kernel
theorem dX5_receivers_66 : decode cX5_receivers 66 = .ok (.iload 4, 2) := by decide +kernel
theorem dX5_receivers_68 : decode cX5_receivers 68 = .ok (.invokevirtual 158, 3) := by decide +kernel
theorem dX5_receivers_71 : decode cX5_receivers 71 = .ok (.goto 6, 3) := by decide +kernel
theorem dX5_receivers_74 : decode cX5_receivers 74 = .ok (.sipush 512, 3) := by decide +kernel
theorem dX5_receivers_77 : decode cX5_receivers 77 = .ok (.istore 5, 2) := by decide +kernel
theorem dX5_receivers_79 : decode cX5_receivers 79 = .ok (.aload_n 0, 1) := by decide +kernel
theorem dX5_receivers_80 : decode cX5_receivers 80 = .ok (.iconst 1, 1) := by decide +kernel
theorem dX5_receivers_81 : decode cX5_receivers 81 = .ok (.iload_n 1, 1) := by decide +kernel
theorem dX5_receivers_82 : decode cX5_receivers 82 = .ok (.invokevirtual 155, 3) := by decide +kernel
theorem dX5_receivers_85 : decode cX5_receivers 85 = .ok (.ifCond .eq 14, 3) := by decide +kernel
theorem dX5_receivers_88 : decode cX5_receivers 88 = .ok (.aload_n 0, 1) := by decide +kernel
theorem dX5_receivers_89 : decode cX5_receivers 89 = .ok (.iconst 1, 1) := by decide +kernel
theorem dX5_receivers_90 : decode cX5_receivers 90 = .ok (.iload_n 1, 1) := by decide +kernel
theorem dX5_receivers_91 : decode cX5_receivers 91 = .ok (.iload 4, 2) := by decide +kernel
theorem dX5_receivers_93 : decode cX5_receivers 93 = .ok (.invokevirtual 158, 3) := by decide +kernel
theorem dX5_receivers_96 : decode cX5_receivers 96 = .ok (.goto 6, 3) := by decide +kernel
theorem dX5_receivers_99 : decode cX5_receivers 99 = .ok (.sipush 512, 3) := by decide +kernel
theorem dX5_receivers_102 : decode cX5_receivers 102 = .ok (.istore 6, 2) := by decide +kernel
theorem dX5_receivers_104 : decode cX5_receivers 104 = .ok (.iload 5, 2) := by decide +kernel
theorem dX5_receivers_106 : decode cX5_receivers 106 = .ok (.bipush 64, 2) := by decide +kernel
theorem dX5_receivers_108 : decode cX5_receivers 108 = .ok (.if_icmp .ge 7, 3) := by decide +kernel
theorem dX5_receivers_111 : decode cX5_receivers 111 = .ok (.iconst 1, 1) := by decide +kernel
theorem dX5_receivers_112 : decode cX5_receivers 112 = .ok (.goto 4, 3) := by decide +kernel
theorem dX5_receivers_115 : decode cX5_receivers 115 = .ok (.iconst 0, 1) := by decide +kernel
theorem dX5_receivers_116 : decode cX5_receivers 116 = .ok (.istore 7, 2) := by decide +kernel
theorem dX5_receivers_118 : decode cX5_receivers 118 = .ok (.iload 6, 2) := by decide +kernel
theorem dX5_receivers_120 : decode cX5_receivers 120 = .ok (.bipush 64, 2) := by decide +kernel
theorem dX5_receivers_122 : decode cX5_receivers 122 = .ok (.if_icmp .ge 7, 3) := by decide +kernel
theorem dX5_receivers_125 : decode cX5_receivers 125 = .ok (.iconst 1, 1) := by decide +kernel
theorem dX5_receivers_126 : decode cX5_receivers 126 = .ok (.goto 4, 3) := by decide +kernel
theorem dX5_receivers_129 : decode cX5_receivers 129 = .ok (.iconst 0, 1) := by decide +kernel
theorem dX5_receivers_130 : decode cX5_receivers 130 = .ok (.istore 8, 2) := by decide +kernel
theorem dX5_receivers_132 : decode cX5_receivers 132 = .ok (.iload_n 2, 1) := by decide +kernel
theorem dX5_receivers_133 : decode cX5_receivers 133 = .ok (.ifCond .ne 11, 3) := by decide +kernel
theorem dX5_receivers_136 : decode cX5_receivers 136 = .ok (.iload 7, 2) := by decide +kernel
theorem dX5_receivers_138 : decode cX5_receivers 138 = .ok (.ifCond .eq 61, 3) := by decide +kernel
theorem dX5_receivers_141 : decode cX5_receivers 141 = .ok (.goto 55, 3) := by decide +kernel
theorem dX5_receivers_144 : decode cX5_receivers 144 = .ok (.iload_n 2, 1) := by decide +kernel
theorem dX5_receivers_145 : decode cX5_receivers 145 = .ok (.iconst 1, 1) := by decide +kernel
theorem dX5_receivers_146 : decode cX5_receivers 146 = .ok (.if_icmp .ne 11, 3) := by decide +kernel
theorem dX5_receivers_149 : decode cX5_receivers 149 = .ok (.iload 8, 2) := by decide +kernel
theorem dX5_receivers_151 : decode cX5_receivers 151 = .ok (.ifCond .eq 48, 3) := by decide +kernel
theorem dX5_receivers_154 : decode cX5_receivers 154 = .ok (.goto 42, 3) := by decide +kernel
theorem dX5_receivers_157 : decode cX5_receivers 157 = .ok (.iload_n 2, 1) := by decide +kernel
theorem dX5_receivers_158 : decode cX5_receivers 158 = .ok (.iconst 2, 1) := by decide +kernel
theorem dX5_receivers_159 : decode cX5_receivers 159 = .ok (.if_icmp .ne 16, 3) := by decide +kernel
theorem dX5_receivers_162 : decode cX5_receivers 162 = .ok (.iload 7, 2) := by decide +kernel
theorem dX5_receivers_164 : decode cX5_receivers 164 = .ok (.ifCond .eq 35, 3) := by decide +kernel
theorem dX5_receivers_167 : decode cX5_receivers 167 = .ok (.iload 8, 2) := by decide +kernel
theorem dX5_receivers_169 : decode cX5_receivers 169 = .ok (.ifCond .ne 30, 3) := by decide +kernel
theorem dX5_receivers_172 : decode cX5_receivers 172 = .ok (.goto 24, 3) := by decide +kernel
theorem dX5_receivers_175 : decode cX5_receivers 175 = .ok (.iload 7, 2) := by decide +kernel
theorem dX5_receivers_177 : decode cX5_receivers 177 = .ok (.ifCond .eq 22, 3) := by decide +kernel
theorem dX5_receivers_180 : decode cX5_receivers 180 = .ok (.iload 8, 2) := by decide +kernel
theorem dX5_receivers_182 : decode cX5_receivers 182 = .ok (.ifCond .eq 17, 3) := by decide +kernel
theorem dX5_receivers_185 : decode cX5_receivers 185 = .ok (.aload_n 0, 1) := by decide +kernel
theorem dX5_receivers_186 : decode cX5_receivers 186 = .ok (.iload 5, 2) := by decide +kernel
theorem dX5_receivers_188 : decode cX5_receivers 188 = .ok (.iload 6, 2) := by decide +kernel
theorem dX5_receivers_190 : decode cX5_receivers 190 = .ok (.invokevirtual 161, 3) := by decide +kernel
theorem dX5_receivers_193 : decode cX5_receivers 193 = .ok (.ifCond .ne 6, 3) := by decide +kernel
theorem dX5_receivers_196 : decode cX5_receivers 196 = .ok (.iinc 3 1, 3) := by decide +kernel
theorem dX5_receivers_199 : decode cX5_receivers 199 = .ok (.iinc 4 1, 3) := by decide +kernel
theorem dX5_receivers_202 : decode cX5_receivers 202 = .ok (.goto (-176), 3) := by decide +kernel
theorem dX5_receivers_205 : decode cX5_receivers 205 = .ok (.iload_n 3, 1) := by decide +kernel
theorem dX5_receivers_206 : decode cX5_receivers 206 = .ok (.ireturn, 1) := by decide +kernel
set_option maxRecDepth 20000 in
theorem ggX5_isUnder_X5_in : GoodIn wsX5_isUnder wsX5_in := goodIn_r _ [4] (by decide +kernel) (by decide +kernel)
set_option maxRecDepth 20000 in
theorem gX5_isUnder_X5_in : GoodIn wsX5_isUnder (va_wsS RX5 72 yX5_in wsX5_in) := goodIn_app (goodIn_of _ (by decide +kernel)) ggX5_isUnder_X5_in
set_option maxRecDepth 20000 in
theorem ggX5_isUnder_X5_isLoaded : GoodIn wsX5_isUnder wsX5_isLoaded := goodIn_r _ [8, 9, 10, 11, 3, 12, 13, 14, 15, 16, 17, 18, 19, 20, 21, 22, 23, 24, 25, 26, 27, 28, 41, 42, 43, 44, 45, 46, 47, 48, 49, 50, 51, 52, 53, 54, 55, 56, 57, 58, 59, 60, 61] (by decide +kernel) (by decide +kernel)
set_option maxRecDepth 20000 in
theorem gX5_isUnder_X5_isLoaded : GoodIn wsX5_isUnder (wsV RX5 146 RX5 yX5_isLoaded wsX5_isLoaded) := goodIn_app (goodIn_of _ (by decide +kernel)) ggX5_isUnder_X5_isLoaded
set_option maxRecDepth 20000 in
theorem ggX5_isUnder_X5_under : GoodIn wsX5_isUnder wsX5_under := goodIn_r _ [32, 33, 34, 35, 3, 36, 16, 37, 38, 39, 40, 17, 21, 22, 23, 41, 42, 43, 44, 45, 46, 47, 48, 49, 50, 51, 52, 53, 54, 55, 56, 57, 58, 59, 60, 61] (by decide +kernel) (by decide +kernel)
set_option maxRecDepth 20000 in
theorem gX5_isUnder_X5_under : GoodIn wsX5_isUnder (wsV RX5 116 RX5 yX5_under wsX5_under) := goodIn_app (goodIn_of _ (by decide +kernel)) ggX5_isUnder_X5_under
theorem dX5_isUnder_0 : decode cX5_isUnder 0 = .ok (.iload_n 1, 1) := by decide +kernel
theorem dX5_isUnder_1 : decode cX5_isUnder 1 = .ok (.iconst 2, 1) := by decide +kernel
theorem dX5_isUnder_2 : decode cX5_isUnder 2 = .ok (.invokestatic 72, 3) := by decide +kernel
theorem dX5_isUnder_5 : decode cX5_isUnder 5 = .ok (.ifCond .eq 53, 3) := by decide +kernel
theorem dX5_isUnder_8 : decode cX5_isUnder 8 = .ok (.iload_n 2, 1) := by decide +kernel
theorem dX5_isUnder_9 : decode cX5_isUnder 9 = .ok (.bipush 12, 2) := by decide +kernel
theorem dX5_isUnder_11 : decode cX5_isUnder 11 = .ok (.invokestatic 72, 3) := by decide +kernel
theorem dX5_isUnder_14 : decode cX5_isUnder 14 = .ok (.ifCond .eq 44, 3) := by decide +kernel
theorem dX5_isUnder_17 : decode cX5_isUnder 17 = .ok (.iload_n 3, 1) := by decide +kernel
theorem dX5_isUnder_18 : decode cX5_isUnder 18 = .ok (.bipush 12, 2) := by decide +kernel
theorem dX5_isUnder_20 : decode cX5_isUnder 20 = .ok (.invokestatic 72, 3) := by decide +kernel
theorem dX5_isUnder_23 : decode cX5_isUnder 23 = .ok (.ifCond .eq 35, 3) := by decide +kernel
theorem dX5_isUnder_26 : decode cX5_isUnder 26 = .ok (.aload_n 0, 1) := by decide +kernel
theorem dX5_isUnder_27 : decode cX5_isUnder 27 = .ok (.iload_n 1, 1) := by decide +kernel
theorem dX5_isUnder_28 : decode cX5_isUnder 28 = .ok (.iload_n 2, 1) := by decide +kernel
theorem dX5_isUnder_29 : decode cX5_isUnder 29 = .ok (.invokevirtual 146, 3) := by decide +kernel
theorem dX5_isUnder_32 : decode cX5_isUnder 32 = .ok (.ifCond .eq 26, 3) := by decide +kernel
theorem dX5_isUnder_35 : decode cX5_isUnder 35 = .ok (.aload_n 0, 1) := by decide +kernel
theorem dX5_isUnder_36 : decode cX5_isUnder 36 = .ok (.iload_n 1, 1) := by decide +kernel
theorem dX5_isUnder_37 : decode cX5_isUnder 37 = .ok (.iload_n 3, 1) := by decide +kernel
theorem dX5_isUnder_38 : decode cX5_isUnder 38 = .ok (.invokevirtual 146, 3) := by decide +kernel
theorem dX5_isUnder_41 : decode cX5_isUnder 41 = .ok (.ifCond .eq 17, 3) := by decide +kernel
theorem dX5_isUnder_44 : decode cX5_isUnder 44 = .ok (.aload_n 0, 1) := by decide +kernel
theorem dX5_isUnder_45 : decode cX5_isUnder 45 = .ok (.iload_n 1, 1) := by decide +kernel
theorem dX5_isUnder_46 : decode cX5_isUnder 46 = .ok (.iload_n 2, 1) := by decide +kernel
theorem dX5_isUnder_47 : decode cX5_isUnder 47 = .ok (.iload_n 3, 1) := by decide +kernel
theorem dX5_isUnder_48 : decode cX5_isUnder 48 = .ok (.invokevirtual 116, 3) := by decide +kernel
theorem dX5_isUnder_51 : decode cX5_isUnder 51 = .ok (.ifCond .eq 7, 3) := by decide +kernel
theorem dX5_isUnder_54 : decode cX5_isUnder 54 = .ok (.iconst 1, 1) := by decide +kernel
theorem dX5_isUnder_55 : decode cX5_isUnder 55 = .ok (.goto 4, 3) := by decide +kernel
theorem dX5_isUnder_58 : decode cX5_isUnder 58 = .ok (.iconst 0, 1) := by decide +kernel
theorem dX5_isUnder_59 : decode cX5_isUnder 59 = .ok (.ireturn, 1) := by decide +kernel
set_option maxRecDepth 20000 in
theorem ggX5_neighbours_X5_nestOf : GoodIn wsX5_neighbours wsX5_nestOf := goodIn_r _ [6, 7, 1, 8, 9, 10, 11, 12, 13, 14, 15, 16, 17, 18, 19, 20, 21, 22, 23, 24, 25, 26, 27, 28, 29] (by decide +kernel) (by decide +kernel)
set_option maxRecDepth 20000 in
theorem gX5_neighbours_X5_nestOf : GoodIn wsX5_neighbours (wsV RX5 113 RX5 yX5_nestOf wsX5_nestOf) := goodIn_app (goodIn_of _ (by decide +kernel)) ggX5_neighbours_X5_nestOf
theorem dX5_neighbours_0 : decode cX5_neighbours 0 = .ok (.iconst 0, 1) := by decide +kernel
theorem dX5_neighbours_1 : decode cX5_neighbours 1 = .ok (.istore_n 2, 1) := by decide +kernel
theorem dX5_neighbours_2 : decode cX5_neighbours 2 = .ok (.iconst 0, 1) := by decide +kernel
theorem dX5_neighbours_3 : decode cX5_neighbours 3 = .ok (.istore_n 3, 1) := by decide +kernel
theorem dX5_neighbours_4 : decode cX5_neighbours 4 = .ok (.iload_n 3, 1) := by decide +kernel
theorem dX5_neighbours_5 : decode cX5_neighbours 5 = .ok (.bipush 12, 2) := by decide +kernel
theorem dX5_neighbours_7 : decode cX5_neighbours 7 = .ok (.if_icmp .ge 82, 3) := by decide +kernel
theorem dX5_neighbours_10 : decode cX5_neighbours 10 = .ok (.iconst 0, 1) := by decide +kernel
theorem dX5_neighbours_11 : decode cX5_neighbours 11 = .ok (.istore 4, 2) := by decide +kernel
theorem dX5_neighbours_13 : decode cX5_neighbours 13 = .ok (.iload 4, 2) := by decide +kernel
theorem dX5_neighbours_15 : decode cX5_neighbours 15 = .ok (.bipush 12, 2) := by decide +kernel
theorem dX5_neighbours_17 : decode cX5_neighbours 17 = .ok (.if_icmp .ge 66, 3) := by decide +kernel
theorem dX5_neighbours_20 : decode cX5_neighbours 20 = .ok (.iload_n 3, 1) := by decide +kernel
theorem dX5_neighbours_21 : decode cX5_neighbours 21 = .ok (.iload 4, 2) := by decide +kernel
theorem dX5_neighbours_23 : decode cX5_neighbours 23 = .ok (.if_icmp .eq 54, 3) := by decide +kernel
theorem dX5_neighbours_26 : decode cX5_neighbours 26 = .ok (.aload_n 0, 1) := by decide +kernel
theorem dX5_neighbours_27 : decode cX5_neighbours 27 = .ok (.getfield 7, 3) := by decide +kernel
theorem dX5_neighbours_30 : decode cX5_neighbours 30 = .ok (.bipush 12, 2) := by decide +kernel
theorem dX5_neighbours_32 : decode cX5_neighbours 32 = .ok (.iload_n 1, 1) := by decide +kernel
theorem dX5_neighbours_33 : decode cX5_neighbours 33 = .ok (.imul, 1) := by decide +kernel
theorem dX5_neighbours_34 : decode cX5_neighbours 34 = .ok (.iload_n 3, 1) := by decide +kernel
theorem dX5_neighbours_35 : decode cX5_neighbours 35 = .ok (.iadd, 1) := by decide +kernel
theorem dX5_neighbours_36 : decode cX5_neighbours 36 = .ok (.baload, 1) := by decide +kernel
theorem dX5_neighbours_37 : decode cX5_neighbours 37 = .ok (.ifCond .eq 40, 3) := by decide +kernel
theorem dX5_neighbours_40 : decode cX5_neighbours 40 = .ok (.aload_n 0, 1) := by decide +kernel
theorem dX5_neighbours_41 : decode cX5_neighbours 41 = .ok (.getfield 7, 3) := by decide +kernel
theorem dX5_neighbours_44 : decode cX5_neighbours 44 = .ok (.bipush 12, 2) := by decide +kernel
theorem dX5_neighbours_46 : decode cX5_neighbours 46 = .ok (.iload_n 1, 1) := by decide +kernel
theorem dX5_neighbours_47 : decode cX5_neighbours 47 = .ok (.imul, 1) := by decide +kernel
theorem dX5_neighbours_48 : decode cX5_neighbours 48 = .ok (.iload 4, 2) := by decide +kernel
theorem dX5_neighbours_50 : decode cX5_neighbours 50 = .ok (.iadd, 1) := by decide +kernel
theorem dX5_neighbours_51 : decode cX5_neighbours 51 = .ok (.baload, 1) := by decide +kernel
theorem dX5_neighbours_52 : decode cX5_neighbours 52 = .ok (.ifCond .eq 25, 3) := by decide +kernel
theorem dX5_neighbours_55 : decode cX5_neighbours 55 = .ok (.aload_n 0, 1) := by decide +kernel
theorem dX5_neighbours_56 : decode cX5_neighbours 56 = .ok (.iload_n 1, 1) := by decide +kernel
theorem dX5_neighbours_57 : decode cX5_neighbours 57 = .ok (.iload_n 3, 1) := by decide +kernel
theorem dX5_neighbours_58 : decode cX5_neighbours 58 = .ok (.invokevirtual 113, 3) := by decide +kernel
theorem dX5_neighbours_61 : decode cX5_neighbours 61 = .ok (.aload_n 0, 1) := by decide +kernel
theorem dX5_neighbours_62 : decode cX5_neighbours 62 = .ok (.iload_n 1, 1) := by decide +kernel
theorem dX5_neighbours_63 : decode cX5_neighbours 63 = .ok (.iload 4, 2) := by decide +kernel
theorem dX5_neighbours_65 : decode cX5_neighbours 65 = .ok (.invokevirtual 113, 3) := by decide +kernel
theorem dX5_neighbours_68 : decode cX5_neighbours 68 = .ok (.if_icmp .ne 9, 3) := by decide +kernel
theorem dX5_neighbours_71 : decode cX5_neighbours 71 = .ok (.iload_n 2, 1) := by decide +kernel
theorem dX5_neighbours_72 : decode cX5_neighbours 72 = .ok (.iconst 1, 1) := by decide +kernel
theorem dX5_neighbours_73 : decode cX5_neighbours 73 = .ok (.iload_n 3, 1) := by decide +kernel
theorem dX5_neighbours_74 : decode cX5_neighbours 74 = .ok (.ishl, 1) := by decide +kernel
theorem dX5_neighbours_75 : decode cX5_neighbours 75 = .ok (.ior, 1) := by decide +kernel
theorem dX5_neighbours_76 : decode cX5_neighbours 76 = .ok (.istore_n 2, 1) := by decide +kernel
theorem dX5_neighbours_77 : decode cX5_neighbours 77 = .ok (.iinc 4 1, 3) := by decide +kernel
theorem dX5_neighbours_80 : decode cX5_neighbours 80 = .ok (.goto (-67), 3) := by decide +kernel
theorem dX5_neighbours_83 : decode cX5_neighbours 83 = .ok (.iinc 3 1, 3) := by decide +kernel
theorem dX5_neighbours_86 : decode cX5_neighbours 86 = .ok (.goto (-82), 3) := by decide +kernel
theorem dX5_neighbours_89 : decode cX5_neighbours 89 = .ok (.iload_n 2, 1) := by decide +kernel
theorem dX5_neighbours_90 : decode cX5_neighbours 90 = .ok (.ireturn, 1) := by decide +kernel
set_option maxRecDepth 20000 in
theorem ggX5_count_X5_in : GoodIn wsX5_count wsX5_in := goodIn_r _ [10] (by decide +kernel) (by decide +kernel)
set_option maxRecDepth 20000 in
theorem gX5_count_X5_in : GoodIn wsX5_count (va_wsS RX5 72 yX5_in wsX5_in) := goodIn_app (goodIn_of _ (by decide +kernel)) ggX5_count_X5_in
set_option maxRecDepth 20000 in
theorem ggX5_count_X5_isLoaded : GoodIn wsX5_count wsX5_isLoaded := goodIn_r _ [14, 15, 16, 17, 9, 18, 19, 20, 1, 21, 22, 23, 24, 25, 26, 27, 28, 29, 30, 31, 32, 33, 99, 100, 101, 102, 103, 104, 105, 106, 107, 108, 109, 110, 111, 112, 113, 114, 115, 116, 117, 118, 119] (by decide +kernel) (by decide +kernel)
set_option maxRecDepth 20000 in
theorem gX5_count_X5_isLoaded : GoodIn wsX5_count (wsV RX5 146 RX5 yX5_isLoaded wsX5_isLoaded) := goodIn_app (goodIn_of _ (by decide +kernel)) ggX5_count_X5_isLoaded
set_option maxRecDepth 20000 in
theorem ggX5_count_X5_resolved : GoodIn wsX5_count wsX5_resolved := goodIn_r _ [37, 38, 39, 40, 33, 41, 42, 5, 43, 15, 16, 17, 9, 18, 19, 20, 1, 21, 22, 23, 24, 25, 26, 27, 28, 29, 30, 31, 32, 44, 45, 46, 47, 48, 49, 50, 51, 2, 3, 4, 52, 53, 54, 55, 56, 57, 58, 59, 60, 61, 62, 63, 64, 65, 66, 67, 68, 69, 70, 71, 72, 73, 74, 75, 76, 77, 78, 79, 80, 81, 82, 83, 84, 85, 86, 87, 88, 89, 90, 91, 92, 93, 94, 99, 100, 101, 102, 103, 104, 105, 106, 107, 108, 109, 110, 111, 112, 113, 114, 115, 116, 117, 118, 119] (by decide +kernel) (by decide +kernel)
set_option maxRecDepth 20000 in
theorem gX5_count_X5_resolved : GoodIn wsX5_count (wsV RX5 143 RX5 yX5_resolved wsX5_resolved) := goodIn_app (goodIn_of _ (by decide +kernel)) ggX5_count_X5_resolved
set_option maxRecDepth 20000 in
theorem ggX5_count_X5_neighbours : GoodIn wsX5_count wsX5_neighbours := goodIn_r _ [98, 1, 90, 91, 92, 9, 93, 94, 41, 99, 100, 101, 102, 103, 104, 105, 106, 107, 108, 109, 110, 111, 112, 113, 114, 115, 116, 117, 118, 119] (by decide +kernel) (by decide +kernel)
set_option maxRecDepth 20000 in
theorem gX5_count_X5_neighbours : GoodIn wsX5_count (wsV RX5 164 RX5 yX5_neighbours wsX5_neighbours) := goodIn_app (goodIn_of _ (by decide +kernel)) ggX5_count_X5_neighbours
theorem dX5_count_0 : decode cX5_count 0 = .ok (.iload_n 1, 1) := by decide +kernel
theorem dX5_count_1 : decode cX5_count 1 = .ok (.iconst 2, 1) := by decide +kernel
theorem dX5_count_2 : decode cX5_count 2 = .ok (.invokestatic 72, 3) := by decide +kernel
theorem dX5_count_5 : decode cX5_count 5 = .ok (.ifCond .eq 12, 3) := by decide +kernel
theorem dX5_count_8 : decode cX5_count 8 = .ok (.iload_n 2, 1) := by decide +kernel
theorem dX5_count_9 : decode cX5_count 9 = .ok (.bipush 7, 2) := by decide +kernel
theorem dX5_count_11 : decode cX5_count 11 = .ok (.invokestatic 72, 3) := by decide +kernel
theorem dX5_count_14 : decode cX5_count 14 = .ok (.ifCond .ne 5, 3) := by decide +kernel
theorem dX5_count_17 : decode cX5_count 17 = .ok (.iconst (-1), 1) := by decide +kernel
theorem dX5_count_18 : decode cX5_count 18 = .ok (.ireturn, 1) := by decide +kernel
theorem dX5_count_19 : decode cX5_count 19 = .ok (.iconst 0, 1) := by decide +kernel
theorem dX5_count_20 : decode cX5_count 20 = .ok (.istore_n 3, 1) := by decide +kernel
theorem dX5_count_21 : decode cX5_count 21 = .ok (.iconst 0, 1) := by decide +kernel
theorem dX5_count_22 : decode cX5_count 22 = .ok (.istore 4, 2) := by decide +kernel
theorem dX5_count_24 : decode cX5_count 24 = .ok (.iload 4, 2) := by decide +kernel
theorem dX5_count_26 : decode cX5_count 26 = .ok (.bipush 12, 2) := by decide +kernel
theorem dX5_count_28 : decode cX5_count 28 = .ok (.if_icmp .ge 46, 3) := by decide +kernel
theorem dX5_count_31 : decode cX5_count 31 = .ok (.aload_n 0, 1) := by decide +kernel
theorem dX5_count_32 : decode cX5_count 32 = .ok (.getfield 7, 3) := by decide +kernel
theorem dX5_count_35 : decode cX5_count 35 = .ok (.bipush 12, 2) := by decide +kernel
theorem dX5_count_37 : decode cX5_count 37 = .ok (.iload_n 1, 1) := by decide +kernel
theorem dX5_count_38 : decode cX5_count 38 = .ok (.imul, 1) := by decide +kernel
theorem dX5_count_39 : decode cX5_count 39 = .ok (.iload 4, 2) := by decide +kernel
theorem dX5_count_41 : decode cX5_count 41 = .ok (.iadd, 1) := by decide +kernel
theorem dX5_count_42 : decode cX5_count 42 = .ok (.baload, 1) := by decide +kernel
theorem dX5_count_43 : decode cX5_count 43 = .ok (.ifCond .eq 25, 3) := by decide +kernel
theorem dX5_count_46 : decode cX5_count 46 = .ok (.iload_n 2, 1) := by decide +kernel
theorem dX5_count_47 : decode cX5_count 47 = .ok (.ifCond .eq 18, 3) := by decide +kernel
theorem dX5_count_50 : decode cX5_count 50 = .ok (.iload_n 2, 1) := by decide +kernel
theorem dX5_count_51 : decode cX5_count 51 = .ok (.iconst 4, 1) := by decide +kernel
theorem dX5_count_52 : decode cX5_count 52 = .ok (.if_icmp .ne 16, 3) := by decide +kernel
theorem dX5_count_55 : decode cX5_count 55 = .ok (.aload_n 0, 1) := by decide +kernel
theorem dX5_count_56 : decode cX5_count 56 = .ok (.iload_n 1, 1) := by decide +kernel
theorem dX5_count_57 : decode cX5_count 57 = .ok (.iload 4, 2) := by decide +kernel
theorem dX5_count_59 : decode cX5_count 59 = .ok (.invokevirtual 146, 3) := by decide +kernel
theorem dX5_count_62 : decode cX5_count 62 = .ok (.ifCond .eq 6, 3) := by decide +kernel
theorem dX5_count_65 : decode cX5_count 65 = .ok (.iinc 3 1, 3) := by decide +kernel
theorem dX5_count_68 : decode cX5_count 68 = .ok (.iinc 4 1, 3) := by decide +kernel
theorem dX5_count_71 : decode cX5_count 71 = .ok (.goto (-47), 3) := by decide +kernel
theorem dX5_count_74 : decode cX5_count 74 = .ok (.bipush 30, 2) := by decide +kernel
theorem dX5_count_76 : decode cX5_count 76 = .ok (.iload_n 1, 1) := by decide +kernel
theorem dX5_count_77 : decode cX5_count 77 = .ok (.imul, 1) := by decide +kernel
theorem dX5_count_78 : decode cX5_count 78 = .ok (.istore 4, 2) := by decide +kernel
theorem dX5_count_80 : decode cX5_count 80 = .ok (.iload 4, 2) := by decide +kernel
theorem dX5_count_82 : decode cX5_count 82 = .ok (.bipush 30, 2) := by decide +kernel
theorem dX5_count_84 : decode cX5_count 84 = .ok (.iload_n 1, 1) := by decide +kernel
theorem dX5_count_85 : decode cX5_count 85 = .ok (.imul, 1) := by decide +kernel
theorem dX5_count_86 : decode cX5_count 86 = .ok (.aload_n 0, 1) := by decide +kernel
theorem dX5_count_87 : decode cX5_count 87 = .ok (.getfield 35, 3) := by decide +kernel
theorem dX5_count_90 : decode cX5_count 90 = .ok (.iload_n 1, 1) := by decide +kernel
theorem dX5_count_91 : decode cX5_count 91 = .ok (.iaload, 1) := by decide +kernel
theorem dX5_count_92 : decode cX5_count 92 = .ok (.iadd, 1) := by decide +kernel
theorem dX5_count_93 : decode cX5_count 93 = .ok (.if_icmp .ge 54, 3) := by decide +kernel
theorem dX5_count_96 : decode cX5_count 96 = .ok (.aload_n 0, 1) := by decide +kernel
theorem dX5_count_97 : decode cX5_count 97 = .ok (.getfield 32, 3) := by decide +kernel
theorem dX5_count_100 : decode cX5_count 100 = .ok (.iload 4, 2) := by decide +kernel
theorem dX5_count_102 : decode cX5_count 102 = .ok (.baload, 1) := by decide +kernel
theorem dX5_count_103 : decode cX5_count 103 = .ok (.ifCond .ne 38, 3) := by decide +kernel
theorem dX5_count_106 : decode cX5_count 106 = .ok (.iload_n 2, 1) := by decide +kernel
theorem dX5_count_107 : decode cX5_count 107 = .ok (.iconst 1, 1) := by decide +kernel
theorem dX5_count_108 : decode cX5_count 108 = .ok (.if_icmp .eq 30, 3) := by decide +kernel
theorem dX5_count_111 : decode cX5_count 111 = .ok (.iload_n 2, 1) := by decide +kernel
theorem dX5_count_112 : decode cX5_count 112 = .ok (.iconst 5, 1) := by decide +kernel
theorem dX5_count_113 : decode cX5_count 113 = .ok (.if_icmp .ne 28, 3) := by decide +kernel
theorem dX5_count_116 : decode cX5_count 116 = .ok (.aload_n 0, 1) := by decide +kernel
theorem dX5_count_117 : decode cX5_count 117 = .ok (.getfield 29, 3) := by decide +kernel
theorem dX5_count_120 : decode cX5_count 120 = .ok (.iload 4, 2) := by decide +kernel
theorem dX5_count_122 : decode cX5_count 122 = .ok (.baload, 1) := by decide +kernel
theorem dX5_count_123 : decode cX5_count 123 = .ok (.ifCond .eq 18, 3) := by decide +kernel
theorem dX5_count_126 : decode cX5_count 126 = .ok (.aload_n 0, 1) := by decide +kernel
theorem dX5_count_127 : decode cX5_count 127 = .ok (.getfield 47, 3) := by decide +kernel
theorem dX5_count_130 : decode cX5_count 130 = .ok (.iload 4, 2) := by decide +kernel
theorem dX5_count_132 : decode cX5_count 132 = .ok (.iaload, 1) := by decide +kernel
theorem dX5_count_133 : decode cX5_count 133 = .ok (.iconst 2, 1) := by decide +kernel
theorem dX5_count_134 : decode cX5_count 134 = .ok (.iand, 1) := by decide +kernel
theorem dX5_count_135 : decode cX5_count 135 = .ok (.ifCond .eq 6, 3) := by decide +kernel
theorem dX5_count_138 : decode cX5_count 138 = .ok (.iinc 3 1, 3) := by decide +kernel
theorem dX5_count_141 : decode cX5_count 141 = .ok (.iinc 4 1, 3) := by decide +kernel
theorem dX5_count_144 : decode cX5_count 144 = .ok (.goto (-64), 3) := by decide +kernel
theorem dX5_count_147 : decode cX5_count 147 = .ok (.iconst 0, 1) := by decide +kernel
theorem dX5_count_148 : decode cX5_count 148 = .ok (.istore 4, 2) := by decide +kernel
theorem dX5_count_150 : decode cX5_count 150 = .ok (.iload 4, 2) := by decide +kernel
theorem dX5_count_152 : decode cX5_count 152 = .ok (.aload_n 0, 1) := by decide +kernel
theorem dX5_count_153 : decode cX5_count 153 = .ok (.getfield 91, 3) := by decide +kernel
theorem dX5_count_156 : decode cX5_count 156 = .ok (.if_icmp .ge 29, 3) := by decide +kernel
theorem dX5_count_159 : decode cX5_count 159 = .ok (.iload_n 2, 1) := by decide +kernel
theorem dX5_count_160 : decode cX5_count 160 = .ok (.iconst 3, 1) := by decide +kernel
theorem dX5_count_161 : decode cX5_count 161 = .ok (.if_icmp .ne 18, 3) := by decide +kernel
theorem dX5_count_164 : decode cX5_count 164 = .ok (.aload_n 0, 1) := by decide +kernel
theorem dX5_count_165 : decode cX5_count 165 = .ok (.iload_n 1, 1) := by decide +kernel
theorem dX5_count_166 : decode cX5_count 166 = .ok (.iload 4, 2) := by decide +kernel
theorem dX5_count_168 : decode cX5_count 168 = .ok (.invokevirtual 143, 3) := by decide +kernel
theorem dX5_count_171 : decode cX5_count 171 = .ok (.bipush 64, 2) := by decide +kernel
theorem dX5_count_173 : decode cX5_count 173 = .ok (.if_icmp .ge 6, 3) := by decide +kernel
theorem dX5_count_176 : decode cX5_count 176 = .ok (.iinc 3 1, 3) := by decide +kernel
theorem dX5_count_179 : decode cX5_count 179 = .ok (.iinc 4 1, 3) := by decide +kernel
theorem dX5_count_182 : decode cX5_count 182 = .ok (.goto (-32), 3) := by decide +kernel
theorem dX5_count_185 : decode cX5_count 185 = .ok (.iload_n 2, 1) := by decide +kernel
theorem dX5_count_186 : decode cX5_count 186 = .ok (.iconst 2, 1) := by decide +kernel
theorem dX5_count_187 : decode cX5_count 187 = .ok (.if_icmp .ne 12, 3) := by decide +kernel
theorem dX5_count_190 : decode cX5_count 190 = .ok (.aload_n 0, 1) := by decide +kernel
theorem dX5_count_191 : decode cX5_count 191 = .ok (.getfield 35, 3) := by decide +kernel
theorem dX5_count_194 : decode cX5_count 194 = .ok (.iload_n 1, 1) := by decide +kernel
theorem dX5_count_195 : decode cX5_count 195 = .ok (.iaload, 1) := by decide +kernel
theorem dX5_count_196 : decode cX5_count 196 = .ok (.goto 18, 3) := by decide +kernel
theorem dX5_count_199 : decode cX5_count 199 = .ok (.iload_n 2, 1) := by decide +kernel
theorem dX5_count_200 : decode cX5_count 200 = .ok (.bipush 6, 2) := by decide +kernel
theorem dX5_count_202 : decode cX5_count 202 = .ok (.if_icmp .ne 11, 3) := by decide +kernel
theorem dX5_count_205 : decode cX5_count 205 = .ok (.aload_n 0, 1) := by decide +kernel
theorem dX5_count_206 : decode cX5_count 206 = .ok (.iload_n 1, 1) := by decide +kernel
theorem dX5_count_207 : decode cX5_count 207 = .ok (.invokevirtual 164, 3) := by decide +kernel
theorem dX5_count_210 : decode cX5_count 210 = .ok (.goto 4, 3) := by decide +kernel
theorem dX5_count_213 : decode cX5_count 213 = .ok (.iload_n 3, 1) := by decide +kernel
theorem dX5_count_214 : decode cX5_count 214 = .ok (.ireturn, 1) := by decide +kernel
theorem dJ6_bitCount_0f7a4_0 : decode cJ6_bitCount_0f7a4 0 = .ok (.iload_n 0, 1) := by decide +kernel
theorem dJ6_bitCount_0f7a4_1 : decode cJ6_bitCount_0f7a4 1 = .ok (.iload_n 0, 1) := by decide +kernel
theorem dJ6_bitCount_0f7a4_2 : decode cJ6_bitCount_0f7a4 2 = .ok (.iconst 1, 1) := by decide +kernel
theorem dJ6_bitCount_0f7a4_3 : decode cJ6_bitCount_0f7a4 3 = .ok (.iushr, 1) := by decide +kernel
theorem dJ6_bitCount_0f7a4_4 : decode cJ6_bitCount_0f7a4 4 = .ok (.ldc_w 265, 3) := by decide +kernel
theorem dJ6_bitCount_0f7a4_7 : decode cJ6_bitCount_0f7a4 7 = .ok (.iand, 1) := by decide +kernel
theorem dJ6_bitCount_0f7a4_8 : decode cJ6_bitCount_0f7a4 8 = .ok (.isub, 1) := by decide +kernel
theorem dJ6_bitCount_0f7a4_9 : decode cJ6_bitCount_0f7a4 9 = .ok (.istore_n 0, 1) := by decide +kernel
theorem dJ6_bitCount_0f7a4_10 : decode cJ6_bitCount_0f7a4 10 = .ok (.iload_n 0, 1) := by decide +kernel
theorem dJ6_bitCount_0f7a4_11 : decode cJ6_bitCount_0f7a4 11 = .ok (.ldc_w 266, 3) := by decide +kernel
theorem dJ6_bitCount_0f7a4_14 : decode cJ6_bitCount_0f7a4 14 = .ok (.iand, 1) := by decide +kernel
theorem dJ6_bitCount_0f7a4_15 : decode cJ6_bitCount_0f7a4 15 = .ok (.iload_n 0, 1) := by decide +kernel
theorem dJ6_bitCount_0f7a4_16 : decode cJ6_bitCount_0f7a4 16 = .ok (.iconst 2, 1) := by decide +kernel
theorem dJ6_bitCount_0f7a4_17 : decode cJ6_bitCount_0f7a4 17 = .ok (.iushr, 1) := by decide +kernel
theorem dJ6_bitCount_0f7a4_18 : decode cJ6_bitCount_0f7a4 18 = .ok (.ldc_w 266, 3) := by decide +kernel
theorem dJ6_bitCount_0f7a4_21 : decode cJ6_bitCount_0f7a4 21 = .ok (.iand, 1) := by decide +kernel
theorem dJ6_bitCount_0f7a4_22 : decode cJ6_bitCount_0f7a4 22 = .ok (.iadd, 1) := by decide +kernel
theorem dJ6_bitCount_0f7a4_23 : decode cJ6_bitCount_0f7a4 23 = .ok (.istore_n 0, 1) := by decide +kernel
theorem dJ6_bitCount_0f7a4_24 : decode cJ6_bitCount_0f7a4 24 = .ok (.iload_n 0, 1) := by decide +kernel
theorem dJ6_bitCount_0f7a4_25 : decode cJ6_bitCount_0f7a4 25 = .ok (.iload_n 0, 1) := by decide +kernel
theorem dJ6_bitCount_0f7a4_26 : decode cJ6_bitCount_0f7a4 26 = .ok (.iconst 4, 1) := by decide +kernel
theorem dJ6_bitCount_0f7a4_27 : decode cJ6_bitCount_0f7a4 27 = .ok (.iushr, 1) := by decide +kernel
theorem dJ6_bitCount_0f7a4_28 : decode cJ6_bitCount_0f7a4 28 = .ok (.iadd, 1) := by decide +kernel
theorem dJ6_bitCount_0f7a4_29 : decode cJ6_bitCount_0f7a4 29 = .ok (.ldc_w 267, 3) := by decide +kernel
theorem dJ6_bitCount_0f7a4_32 : decode cJ6_bitCount_0f7a4 32 = .ok (.iand, 1) := by decide +kernel
theorem dJ6_bitCount_0f7a4_33 : decode cJ6_bitCount_0f7a4 33 = .ok (.istore_n 0, 1) := by decide +kernel
theorem dJ6_bitCount_0f7a4_34 : decode cJ6_bitCount_0f7a4 34 = .ok (.iload_n 0, 1) := by decide +kernel
theorem dJ6_bitCount_0f7a4_35 : decode cJ6_bitCount_0f7a4 35 = .ok (.iload_n 0, 1) := by decide +kernel
theorem dJ6_bitCount_0f7a4_36 : decode cJ6_bitCount_0f7a4 36 = .ok (.bipush 8, 2) := by decide +kernel
theorem dJ6_bitCount_0f7a4_38 : decode cJ6_bitCount_0f7a4 38 = .ok (.iushr, 1) := by decide +kernel
theorem dJ6_bitCount_0f7a4_39 : decode cJ6_bitCount_0f7a4 39 = .ok (.iadd, 1) := by decide +kernel
theorem dJ6_bitCount_0f7a4_40 : decode cJ6_bitCount_0f7a4 40 = .ok (.istore_n 0, 1) := by decide +kernel
theorem dJ6_bitCount_0f7a4_41 : decode cJ6_bitCount_0f7a4 41 = .ok (.iload_n 0, 1) := by decide +kernel
theorem dJ6_bitCount_0f7a4_42 : decode cJ6_bitCount_0f7a4 42 = .ok (.iload_n 0, 1) := by decide +kernel
theorem dJ6_bitCount_0f7a4_43 : decode cJ6_bitCount_0f7a4 43 = .ok (.bipush 16, 2) := by decide +kernel
theorem dJ6_bitCount_0f7a4_45 : decode cJ6_bitCount_0f7a4 45 = .ok (.iushr, 1) := by decide +kernel
theorem dJ6_bitCount_0f7a4_46 : decode cJ6_bitCount_0f7a4 46 = .ok (.iadd, 1) := by decide +kernel
theorem dJ6_bitCount_0f7a4_47 : decode cJ6_bitCount_0f7a4 47 = .ok (.istore_n 0, 1) := by decide +kernel
theorem dJ6_bitCount_0f7a4_48 : decode cJ6_bitCount_0f7a4 48 = .ok (.iload_n 0, 1) := by decide +kernel
theorem dJ6_bitCount_0f7a4_49 : decode cJ6_bitCount_0f7a4 49 = .ok (.bipush 63, 2) := by decide +kernel
theorem dJ6_bitCount_0f7a4_51 : decode cJ6_bitCount_0f7a4 51 = .ok (.iand, 1) := by decide +kernel
theorem dJ6_bitCount_0f7a4_52 : decode cJ6_bitCount_0f7a4 52 = .ok (.ireturn, 1) := by decide +kernel
theorem dJ9_min_7cf53_0 : decode cJ9_min_7cf53 0 = .ok (.iload_n 0, 1) := by decide +kernel
theorem dJ9_min_7cf53_1 : decode cJ9_min_7cf53 1 = .ok (.iload_n 1, 1) := by decide +kernel
theorem dJ9_min_7cf53_2 : decode cJ9_min_7cf53 2 = .ok (.if_icmp .gt 7, 3) := by decide +kernel
theorem dJ9_min_7cf53_5 : decode cJ9_min_7cf53 5 = .ok (.iload_n 0, 1) := by decide +kernel
theorem dJ9_min_7cf53_6 : decode cJ9_min_7cf53 6 = .ok (.goto 4, 3) := by decide +kernel
theorem dJ9_min_7cf53_9 : decode cJ9_min_7cf53 9 = .ok (.iload_n 1, 1) := by decide +kernel
theorem dJ9_min_7cf53_10 : decode cJ9_min_7cf53 10 = .ok (.ireturn, 1) := by decide +kernel
set_option maxRecDepth 20000 in
theorem ggL_law_X4_init : GoodIn wsL_law wsX4_init := goodIn_r _ [8, 9, 10, 11, 12, 13, 14, 15, 16, 17, 18, 19, 20, 21, 22, 23, 24, 25, 26, 27, 28, 29, 30, 31, 32, 33, 34, 35, 36, 37, 38, 39, 40, 41, 42, 43, 44, 45, 46, 47, 2, 48, 49, 50, 51, 52, 53, 54, 55, 56, 57, 58, 59, 60, 61, 62, 63, 64, 65, 66, 67, 68, 69, 70, 71, 72, 73, 74, 75, 76, 77, 78, 79, 80, 81, 82, 83, 84, 85, 86, 87, 88, 89, 90, 91, 92, 93, 94, 690, 691, 692, 665, 666, 667, 668, 693, 694, 695, 696, 697, 698, 699, 700, 701, 702, 703, 704, 705, 706, 707, 708, 709, 710, 711, 712] (by decide +kernel) (by decide +kernel)
