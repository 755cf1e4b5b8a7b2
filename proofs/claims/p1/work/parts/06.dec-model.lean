theorem dX12_thrown_0 : decode cX12_thrown 0 = .ok (.aload_n 0, 1) := by decide +kernel
theorem dX12_thrown_1 : decode cX12_thrown 1 = .ok (.getfield 1, 3) := by decide +kernel
theorem dX12_thrown_4 : decode cX12_thrown 4 = .ok (.ireturn, 1) := by decide +kernel
theorem dX12_fails_0 : decode cX12_fails 0 = .ok (.aload_n 0, 1) := by decide +kernel
theorem dX12_fails_1 : decode cX12_fails 1 = .ok (.iload_n 1, 1) := by decide +kernel
theorem dX12_fails_2 : decode cX12_fails 2 = .ok (.putfield 1, 3) := by decide +kernel
theorem dX12_fails_5 : decode cX12_fails 5 = .ok (.iload_n 1, 1) := by decide +kernel
theorem dX12_fails_6 : decode cX12_fails 6 = .ok (.ifCond .eq 7, 3) := by decide +kernel
theorem dX12_fails_9 : decode cX12_fails 9 = .ok (.iconst 1, 1) := by decide +kernel
theorem dX12_fails_10 : decode cX12_fails 10 = .ok (.goto 4, 3) := by decide +kernel
theorem dX12_fails_13 : decode cX12_fails 13 = .ok (.iconst 0, 1) := by decide +kernel
theorem dX12_fails_14 : decode cX12_fails 14 = .ok (.ireturn, 1) := by decide +kernel
theorem dX12_init_0 : decode cX12_init 0 = .ok (.aload_n 0, 1) := by decide +kernel
theorem dX12_init_1 : decode cX12_init 1 = .ok (.invokespecial 7, 3) := by decide +kernel
theorem dX12_init_4 : decode cX12_init 4 = .ok (.aload_n 0, 1) := by decide +kernel
theorem dX12_init_5 : decode cX12_init 5 = .ok (.sipush 400, 3) := by decide +kernel
theorem dX12_init_8 : decode cX12_init 8 = .ok (.newarray .byte, 2) := by decide +kernel
theorem dX12_init_10 : decode cX12_init 10 = .ok (.putfield 13, 3) := by decide +kernel
theorem dX12_init_13 : decode cX12_init 13 = .ok (.aload_n 0, 1) := by decide +kernel
theorem dX12_init_14 : decode cX12_init 14 = .ok (.iconst 4, 1) := by decide +kernel
theorem dX12_init_15 : decode cX12_init 15 = .ok (.newarray .int, 2) := by decide +kernel
theorem dX12_init_17 : decode cX12_init 17 = .ok (.putfield 17, 3) := by decide +kernel
theorem dX12_init_20 : decode cX12_init 20 = .ok (.aload_n 0, 1) := by decide +kernel
theorem dX12_init_21 : decode cX12_init 21 = .ok (.bipush 12, 2) := by decide +kernel
theorem dX12_init_23 : decode cX12_init 23 = .ok (.newarray .int, 2) := by decide +kernel
theorem dX12_init_25 : decode cX12_init 25 = .ok (.putfield 21, 3) := by decide +kernel
theorem dX12_init_28 : decode cX12_init 28 = .ok (.aload_n 0, 1) := by decide +kernel
theorem dX12_init_29 : decode cX12_init 29 = .ok (.bipush 12, 2) := by decide +kernel
theorem dX12_init_31 : decode cX12_init 31 = .ok (.newarray .int, 2) := by decide +kernel
theorem dX12_init_33 : decode cX12_init 33 = .ok (.putfield 24, 3) := by decide +kernel
theorem dX12_init_36 : decode cX12_init 36 = .ok (.aload_n 0, 1) := by decide +kernel
theorem dX12_init_37 : decode cX12_init 37 = .ok (.bipush 12, 2) := by decide +kernel
theorem dX12_init_39 : decode cX12_init 39 = .ok (.newarray .int, 2) := by decide +kernel
theorem dX12_init_41 : decode cX12_init 41 = .ok (.putfield 27, 3) := by decide +kernel
theorem dX12_init_44 : decode cX12_init 44 = .ok (.aload_n 0, 1) := by decide +kernel
theorem dX12_init_45 : decode cX12_init 45 = .ok (.bipush 12, 2) := by decide +kernel
theorem dX12_init_47 : decode cX12_init 47 = .ok (.newarray .int, 2) := by decide +kernel
theorem dX12_init_49 : decode cX12_init 49 = .ok (.putfield 30, 3) := by decide +kernel
theorem dX12_init_52 : decode cX12_init 52 = .ok (.aload_n 0, 1) := by decide +kernel
theorem dX12_init_53 : decode cX12_init 53 = .ok (.bipush 12, 2) := by decide +kernel
theorem dX12_init_55 : decode cX12_init 55 = .ok (.newarray .int, 2) := by decide +kernel
theorem dX12_init_57 : decode cX12_init 57 = .ok (.putfield 33, 3) := by decide +kernel
theorem dX12_init_60 : decode cX12_init 60 = .ok (.aload_n 0, 1) := by decide +kernel
theorem dX12_init_61 : decode cX12_init 61 = .ok (.bipush 36, 2) := by decide +kernel
theorem dX12_init_63 : decode cX12_init 63 = .ok (.newarray .int, 2) := by decide +kernel
theorem dX12_init_65 : decode cX12_init 65 = .ok (.putfield 36, 3) := by decide +kernel
theorem dX12_init_68 : decode cX12_init 68 = .ok (.aload_n 0, 1) := by decide +kernel
theorem dX12_init_69 : decode cX12_init 69 = .ok (.sipush 3000, 3) := by decide +kernel
theorem dX12_init_72 : decode cX12_init 72 = .ok (.newarray .boolean, 2) := by decide +kernel
theorem dX12_init_74 : decode cX12_init 74 = .ok (.putfield 39, 3) := by decide +kernel
theorem dX12_init_77 : decode cX12_init 77 = .ok (.aload_n 0, 1) := by decide +kernel
theorem dX12_init_78 : decode cX12_init 78 = .ok (.sipush 3000, 3) := by decide +kernel
theorem dX12_init_81 : decode cX12_init 81 = .ok (.newarray .int, 2) := by decide +kernel
theorem dX12_init_83 : decode cX12_init 83 = .ok (.putfield 43, 3) := by decide +kernel
theorem dX12_init_86 : decode cX12_init 86 = .ok (.aload_n 0, 1) := by decide +kernel
theorem dX12_init_87 : decode cX12_init 87 = .ok (.sipush 12000, 3) := by decide +kernel
theorem dX12_init_90 : decode cX12_init 90 = .ok (.newarray .int, 2) := by decide +kernel
theorem dX12_init_92 : decode cX12_init 92 = .ok (.putfield 46, 3) := by decide +kernel
theorem dX12_init_95 : decode cX12_init 95 = .ok (.aload_n 0, 1) := by decide +kernel
theorem dX12_init_96 : decode cX12_init 96 = .ok (.sipush 3000, 3) := by decide +kernel
theorem dX12_init_99 : decode cX12_init 99 = .ok (.newarray .int, 2) := by decide +kernel
theorem dX12_init_101 : decode cX12_init 101 = .ok (.putfield 49, 3) := by decide +kernel
theorem dX12_init_104 : decode cX12_init 104 = .ok (.aload_n 0, 1) := by decide +kernel
theorem dX12_init_105 : decode cX12_init 105 = .ok (.sipush 3000, 3) := by decide +kernel
theorem dX12_init_108 : decode cX12_init 108 = .ok (.newarray .int, 2) := by decide +kernel
theorem dX12_init_110 : decode cX12_init 110 = .ok (.putfield 52, 3) := by decide +kernel
theorem dX12_init_113 : decode cX12_init 113 = .ok (.aload_n 0, 1) := by decide +kernel
theorem dX12_init_114 : decode cX12_init 114 = .ok (.sipush 3000, 3) := by decide +kernel
theorem dX12_init_117 : decode cX12_init 117 = .ok (.newarray .int, 2) := by decide +kernel
theorem dX12_init_119 : decode cX12_init 119 = .ok (.putfield 55, 3) := by decide +kernel
theorem dX12_init_122 : decode cX12_init 122 = .ok (.aload_n 0, 1) := by decide +kernel
theorem dX12_init_123 : decode cX12_init 123 = .ok (.sipush 3000, 3) := by decide +kernel
theorem dX12_init_126 : decode cX12_init 126 = .ok (.newarray .int, 2) := by decide +kernel
theorem dX12_init_128 : decode cX12_init 128 = .ok (.putfield 58, 3) := by decide +kernel
theorem dX12_init_131 : decode cX12_init 131 = .ok (.aload_n 0, 1) := by decide +kernel
theorem dX12_init_132 : decode cX12_init 132 = .ok (.sipush 3000, 3) := by decide +kernel
theorem dX12_init_135 : decode cX12_init 135 = .ok (.newarray .int, 2) := by decide +kernel
theorem dX12_init_137 : decode cX12_init 137 = .ok (.putfield 61, 3) := by decide +kernel
theorem dX12_init_140 : decode cX12_init 140 = .ok (.aload_n 0, 1) := by decide +kernel
theorem dX12_init_141 : decode cX12_init 141 = .ok (.sipush 3000, 3) := by decide +kernel
theorem dX12_init_144 : decode cX12_init 144 = .ok (.newarray .int, 2) := by decide +kernel
theorem dX12_init_146 : decode cX12_init 146 = .ok (.putfield 64, 3) := by decide +kernel
theorem dX12_init_149 : decode cX12_init 149 = .ok (.aload_n 0, 1) := by decide +kernel
theorem dX12_init_150 : decode cX12_init 150 = .ok (.sipush 12000, 3) := by decide +kernel
theorem dX12_init_153 : decode cX12_init 153 = .ok (.newarray .int, 2) := by decide +kernel
theorem dX12_init_155 : decode cX12_init 155 = .ok (.putfield 67, 3) := by decide +kernel
theorem dX12_init_158 : decode cX12_init 158 = .ok (.aload_n 0, 1) := by decide +kernel
theorem dX12_init_159 : decode cX12_init 159 = .ok (.bipush 8, 2) := by decide +kernel
theorem dX12_init_161 : decode cX12_init 161 = .ok (.newarray .int, 2) := by decide +kernel
theorem dX12_init_163 : decode cX12_init 163 = .ok (.putfield 70, 3) := by decide +kernel
theorem dX12_init_166 : decode cX12_init 166 = .ok (.aload_n 0, 1) := by decide +kernel
theorem dX12_init_167 : decode cX12_init 167 = .ok (.bipush 10, 2) := by decide +kernel
theorem dX12_init_169 : decode cX12_init 169 = .ok (.newarray .boolean, 2) := by decide +kernel
theorem dX12_init_171 : decode cX12_init 171 = .ok (.putfield 73, 3) := by decide +kernel
theorem dX12_init_174 : decode cX12_init 174 = .ok (.aload_n 0, 1) := by decide +kernel
theorem dX12_init_175 : decode cX12_init 175 = .ok (.bipush 10, 2) := by decide +kernel
theorem dX12_init_177 : decode cX12_init 177 = .ok (.newarray .boolean, 2) := by decide +kernel
theorem dX12_init_179 : decode cX12_init 179 = .ok (.putfield 76, 3) := by decide +kernel
theorem dX12_init_182 : decode cX12_init 182 = .ok (.aload_n 0, 1) := by decide +kernel
theorem dX12_init_183 : decode cX12_init 183 = .ok (.bipush 10, 2) := by decide +kernel
theorem dX12_init_185 : decode cX12_init 185 = .ok (.newarray .int, 2) := by decide +kernel
theorem dX12_init_187 : decode cX12_init 187 = .ok (.putfield 79, 3) := by decide +kernel
theorem dX12_init_190 : decode cX12_init 190 = .ok (.aload_n 0, 1) := by decide +kernel
theorem dX12_init_191 : decode cX12_init 191 = .ok (.bipush 10, 2) := by decide +kernel
theorem dX12_init_193 : decode cX12_init 193 = .ok (.newarray .int, 2) := by decide +kernel
theorem dX12_init_195 : decode cX12_init 195 = .ok (.putfield 82, 3) := by decide +kernel
theorem dX12_init_198 : decode cX12_init 198 = .ok (.aload_n 0, 1) := by decide +kernel
theorem dX12_init_199 : decode cX12_init 199 = .ok (.bipush 10, 2) := by decide +kernel
theorem dX12_init_201 : decode cX12_init 201 = .ok (.newarray .int, 2) := by decide +kernel
theorem dX12_init_203 : decode cX12_init 203 = .ok (.putfield 85, 3) := by decide +kernel
theorem dX12_init_206 : decode cX12_init 206 = .ok (.aload_n 0, 1) := by decide +kernel
theorem dX12_init_207 : decode cX12_init 207 = .ok (.bipush 10, 2) := by decide +kernel
theorem dX12_init_209 : decode cX12_init 209 = .ok (.newarray .int, 2) := by decide +kernel
theorem dX12_init_211 : decode cX12_init 211 = .ok (.putfield 88, 3) := by decide +kernel
theorem dX12_init_214 : decode cX12_init 214 = .ok (.aload_n 0, 1) := by decide +kernel
theorem dX12_init_215 : decode cX12_init 215 = .ok (.bipush 10, 2) := by decide +kernel
theorem dX12_init_217 : decode cX12_init 217 = .ok (.newarray .int, 2) := by decide +kernel
theorem dX12_init_219 : decode cX12_init 219 = .ok (.putfield 91, 3) := by decide +kernel
theorem dX12_init_222 : decode cX12_init 222 = .ok (.aload_n 0, 1) := by decide +kernel
theorem dX12_init_223 : decode cX12_init 223 = .ok (.bipush 40, 2) := by decide +kernel
theorem dX12_init_225 : decode cX12_init 225 = .ok (.newarray .int, 2) := by decide +kernel
theorem dX12_init_227 : decode cX12_init 227 = .ok (.putfield 94, 3) := by decide +kernel
theorem dX12_init_230 : decode cX12_init 230 = .ok (.aload_n 0, 1) := by decide +kernel
theorem dX12_init_231 : decode cX12_init 231 = .ok (.sipush 6000, 3) := by decide +kernel
theorem dX12_init_234 : decode cX12_init 234 = .ok (.newarray .int, 2) := by decide +kernel
theorem dX12_init_236 : decode cX12_init 236 = .ok (.putfield 97, 3) := by decide +kernel
theorem dX12_init_239 : decode cX12_init 239 = .ok (.aload_n 0, 1) := by decide +kernel
theorem dX12_init_240 : decode cX12_init 240 = .ok (.iconst (-1), 1) := by decide +kernel
theorem dX12_init_241 : decode cX12_init 241 = .ok (.putfield 100, 3) := by decide +kernel
theorem dX12_init_244 : decode cX12_init 244 = .ok (.aload_n 0, 1) := by decide +kernel
theorem dX12_init_245 : decode cX12_init 245 = .ok (.bipush 11, 2) := by decide +kernel
theorem dX12_init_247 : decode cX12_init 247 = .ok (.newarray .int, 2) := by decide +kernel
theorem dX12_init_249 : decode cX12_init 249 = .ok (.putfield 103, 3) := by decide +kernel
theorem dX12_init_252 : decode cX12_init 252 = .ok (.aload_n 0, 1) := by decide +kernel
theorem dX12_init_253 : decode cX12_init 253 = .ok (.bipush 11, 2) := by decide +kernel
theorem dX12_init_255 : decode cX12_init 255 = .ok (.newarray .int, 2) := by decide +kernel
theorem dX12_init_257 : decode cX12_init 257 = .ok (.putfield 106, 3) := by decide +kernel
theorem dX12_init_260 : decode cX12_init 260 = .ok (.aload_n 0, 1) := by decide +kernel
theorem dX12_init_261 : decode cX12_init 261 = .ok (.bipush 55, 2) := by decide +kernel
theorem dX12_init_263 : decode cX12_init 263 = .ok (.newarray .int, 2) := by decide +kernel
theorem dX12_init_265 : decode cX12_init 265 = .ok (.putfield 109, 3) := by decide +kernel
theorem dX12_init_268 : decode cX12_init 268 = .ok (.aload_n 0, 1) := by decide +kernel
theorem dX12_init_269 : decode cX12_init 269 = .ok (.bipush 55, 2) := by decide +kernel
theorem dX12_init_271 : decode cX12_init 271 = .ok (.newarray .int, 2) := by decide +kernel
theorem dX12_init_273 : decode cX12_init 273 = .ok (.putfield 112, 3) := by decide +kernel
theorem dX12_init_276 : decode cX12_init 276 = .ok (.aload_n 0, 1) := by decide +kernel
theorem dX12_init_277 : decode cX12_init 277 = .ok (.bipush 12, 2) := by decide +kernel
theorem dX12_init_279 : decode cX12_init 279 = .ok (.newarray .int, 2) := by decide +kernel
theorem dX12_init_281 : decode cX12_init 281 = .ok (.putfield 115, 3) := by decide +kernel
theorem dX12_init_284 : decode cX12_init 284 = .ok (.aload_n 0, 1) := by decide +kernel
theorem dX12_init_285 : decode cX12_init 285 = .ok (.bipush 8, 2) := by decide +kernel
theorem dX12_init_287 : decode cX12_init 287 = .ok (.newarray .int, 2) := by decide +kernel
theorem dX12_init_289 : decode cX12_init 289 = .ok (.putfield 118, 3) := by decide +kernel
theorem dX12_init_292 : decode cX12_init 292 = .ok (.aload_n 0, 1) := by decide +kernel
theorem dX12_init_293 : decode cX12_init 293 = .ok (.bipush 11, 2) := by decide +kernel
theorem dX12_init_295 : decode cX12_init 295 = .ok (.newarray .int, 2) := by decide +kernel
theorem dX12_init_297 : decode cX12_init 297 = .ok (.putfield 121, 3) := by decide +kernel
theorem dX12_init_300 : decode cX12_init 300 = .ok (.aload_n 0, 1) := by decide +kernel
theorem dX12_init_301 : decode cX12_init 301 = .ok (.iconst 5, 1) := by decide +kernel
theorem dX12_init_302 : decode cX12_init 302 = .ok (.newarray .int, 2) := by decide +kernel
theorem dX12_init_304 : decode cX12_init 304 = .ok (.putfield 124, 3) := by decide +kernel
theorem dX12_init_307 : decode cX12_init 307 = .ok (.aload_n 0, 1) := by decide +kernel
theorem dX12_init_308 : decode cX12_init 308 = .ok (.sipush 800, 3) := by decide +kernel
theorem dX12_init_311 : decode cX12_init 311 = .ok (.newarray .int, 2) := by decide +kernel
theorem dX12_init_313 : decode cX12_init 313 = .ok (.putfield 127, 3) := by decide +kernel
theorem dX12_init_316 : decode cX12_init 316 = .ok (.aload_n 0, 1) := by decide +kernel
theorem dX12_init_317 : decode cX12_init 317 = .ok (.sipush 800, 3) := by decide +kernel
theorem dX12_init_320 : decode cX12_init 320 = .ok (.newarray .int, 2) := by decide +kernel
theorem dX12_init_322 : decode cX12_init 322 = .ok (.putfield 130, 3) := by decide +kernel
theorem dX12_init_325 : decode cX12_init 325 = .ok (.return_, 1) := by decide +kernel
set_option maxRecDepth 20000 in
theorem ggX12_feed_X12_fails : GoodIn wsX12_feed wsX12_fails := goodIn_r _ [6, 7, 13, 14, 15, 16, 17, 18, 19, 20, 21, 22, 23, 24, 25, 26, 27, 28, 29, 30, 31, 32, 33, 34, 35, 36, 37, 38, 39, 40, 41, 42, 43, 44, 45, 46, 47, 48, 49, 50, 51, 52, 53, 54, 55, 56, 57, 58, 59, 60, 61, 62, 63, 64, 65, 66, 67, 68, 69] (by decide +kernel) (by decide +kernel)
set_option maxRecDepth 20000 in
theorem gX12_feed_X12_fails : GoodIn wsX12_feed (wsV RX12 136 RX12 yX12_fails wsX12_fails) := goodIn_app (goodIn_of _ (by decide +kernel)) ggX12_feed_X12_fails
set_option maxRecDepth 20000 in
theorem ggX12_feed_X12_four : GoodIn wsX12_feed wsX12_four := goodIn_r _ [11, 12, 1, 13, 14, 15, 16, 17, 18, 19, 20, 21, 22, 23, 24, 25, 26, 27, 28, 29, 30, 31, 32, 33, 34, 35, 36, 37, 38, 39, 40, 41, 42, 43, 44, 45, 46, 47, 48, 49, 50, 51, 52, 53, 54, 55, 56, 57, 58, 59, 60, 61, 62, 63, 64, 65, 66, 67, 68, 69] (by decide +kernel) (by decide +kernel)
set_option maxRecDepth 20000 in
theorem gX12_feed_X12_four : GoodIn wsX12_feed (wsV RX12 140 RX12 yX12_four wsX12_four) := goodIn_app (goodIn_of _ (by decide +kernel)) ggX12_feed_X12_four
theorem dX12_feed_0 : decode cX12_feed 0 = .ok (.aload_n 0, 1) := by decide +kernel
theorem dX12_feed_1 : decode cX12_feed 1 = .ok (.aload_n 0, 1) := by decide +kernel
theorem dX12_feed_2 : decode cX12_feed 2 = .ok (.getfield 133, 3) := by decide +kernel
theorem dX12_feed_5 : decode cX12_feed 5 = .ok (.bipush 20, 2) := by decide +kernel
theorem dX12_feed_7 : decode cX12_feed 7 = .ok (.iadd, 1) := by decide +kernel
theorem dX12_feed_8 : decode cX12_feed 8 = .ok (.sipush 400, 3) := by decide +kernel
theorem dX12_feed_11 : decode cX12_feed 11 = .ok (.if_icmp .le 7, 3) := by decide +kernel
theorem dX12_feed_14 : decode cX12_feed 14 = .ok (.iconst 1, 1) := by decide +kernel
theorem dX12_feed_15 : decode cX12_feed 15 = .ok (.goto 4, 3) := by decide +kernel
theorem dX12_feed_18 : decode cX12_feed 18 = .ok (.iconst 0, 1) := by decide +kernel
theorem dX12_feed_19 : decode cX12_feed 19 = .ok (.invokevirtual 136, 3) := by decide +kernel
theorem dX12_feed_22 : decode cX12_feed 22 = .ok (.ifCond .eq 5, 3) := by decide +kernel
theorem dX12_feed_25 : decode cX12_feed 25 = .ok (.iconst 0, 1) := by decide +kernel
theorem dX12_feed_26 : decode cX12_feed 26 = .ok (.ireturn, 1) := by decide +kernel
theorem dX12_feed_27 : decode cX12_feed 27 = .ok (.aload_n 0, 1) := by decide +kernel
theorem dX12_feed_28 : decode cX12_feed 28 = .ok (.iload_n 1, 1) := by decide +kernel
theorem dX12_feed_29 : decode cX12_feed 29 = .ok (.invokevirtual 140, 3) := by decide +kernel
theorem dX12_feed_32 : decode cX12_feed 32 = .ok (.aload_n 0, 1) := by decide +kernel
theorem dX12_feed_33 : decode cX12_feed 33 = .ok (.iload_n 2, 1) := by decide +kernel
theorem dX12_feed_34 : decode cX12_feed 34 = .ok (.invokevirtual 140, 3) := by decide +kernel
theorem dX12_feed_37 : decode cX12_feed 37 = .ok (.aload_n 0, 1) := by decide +kernel
theorem dX12_feed_38 : decode cX12_feed 38 = .ok (.iload_n 3, 1) := by decide +kernel
theorem dX12_feed_39 : decode cX12_feed 39 = .ok (.invokevirtual 140, 3) := by decide +kernel
theorem dX12_feed_42 : decode cX12_feed 42 = .ok (.aload_n 0, 1) := by decide +kernel
theorem dX12_feed_43 : decode cX12_feed 43 = .ok (.iload 4, 2) := by decide +kernel
theorem dX12_feed_45 : decode cX12_feed 45 = .ok (.invokevirtual 140, 3) := by decide +kernel
theorem dX12_feed_48 : decode cX12_feed 48 = .ok (.aload_n 0, 1) := by decide +kernel
theorem dX12_feed_49 : decode cX12_feed 49 = .ok (.iload 5, 2) := by decide +kernel
theorem dX12_feed_51 : decode cX12_feed 51 = .ok (.invokevirtual 140, 3) := by decide +kernel
theorem dX12_feed_54 : decode cX12_feed 54 = .ok (.aload_n 0, 1) := by decide +kernel
theorem dX12_feed_55 : decode cX12_feed 55 = .ok (.getfield 133, 3) := by decide +kernel
theorem dX12_feed_58 : decode cX12_feed 58 = .ok (.ireturn, 1) := by decide +kernel
theorem dX12_four_0 : decode cX12_four 0 = .ok (.bipush 24, 2) := by decide +kernel
theorem dX12_four_2 : decode cX12_four 2 = .ok (.istore_n 2, 1) := by decide +kernel
theorem dX12_four_3 : decode cX12_four 3 = .ok (.iload_n 2, 1) := by decide +kernel
theorem dX12_four_4 : decode cX12_four 4 = .ok (.ifCond .lt 32, 3) := by decide +kernel
theorem dX12_four_7 : decode cX12_four 7 = .ok (.aload_n 0, 1) := by decide +kernel
theorem dX12_four_8 : decode cX12_four 8 = .ok (.getfield 13, 3) := by decide +kernel
theorem dX12_four_11 : decode cX12_four 11 = .ok (.aload_n 0, 1) := by decide +kernel
theorem dX12_four_12 : decode cX12_four 12 = .ok (.getfield 133, 3) := by decide +kernel
theorem dX12_four_15 : decode cX12_four 15 = .ok (.iload_n 1, 1) := by decide +kernel
theorem dX12_four_16 : decode cX12_four 16 = .ok (.iload_n 2, 1) := by decide +kernel
theorem dX12_four_17 : decode cX12_four 17 = .ok (.ishr, 1) := by decide +kernel
theorem dX12_four_18 : decode cX12_four 18 = .ok (.i2b, 1) := by decide +kernel
theorem dX12_four_19 : decode cX12_four 19 = .ok (.bastore, 1) := by decide +kernel
theorem dX12_four_20 : decode cX12_four 20 = .ok (.aload_n 0, 1) := by decide +kernel
theorem dX12_four_21 : decode cX12_four 21 = .ok (.dup, 1) := by decide +kernel
theorem dX12_four_22 : decode cX12_four 22 = .ok (.getfield 133, 3) := by decide +kernel
theorem dX12_four_25 : decode cX12_four 25 = .ok (.iconst 1, 1) := by decide +kernel
theorem dX12_four_26 : decode cX12_four 26 = .ok (.iadd, 1) := by decide +kernel
theorem dX12_four_27 : decode cX12_four 27 = .ok (.putfield 133, 3) := by decide +kernel
theorem dX12_four_30 : decode cX12_four 30 = .ok (.iinc 2 (-8), 3) := by decide +kernel
theorem dX12_four_33 : decode cX12_four 33 = .ok (.goto (-30), 3) := by decide +kernel
theorem dX12_four_36 : decode cX12_four 36 = .ok (.return_, 1) := by decide +kernel
set_option maxRecDepth 20000 in
theorem ggX12_end_X12_fails : GoodIn wsX12_end wsX12_fails := goodIn_r _ [6, 7, 8, 9, 10, 11, 12, 13, 14, 15, 16, 17, 18, 19, 20, 21, 22, 23, 24, 25, 26, 27, 28, 29, 30, 31, 32, 33, 34, 35, 36, 37, 38, 39, 40, 41, 42, 43, 44, 45, 46, 47, 48, 49, 50, 51, 52, 53, 54, 55, 56, 57, 58, 59, 60, 61, 62, 63, 64] (by decide +kernel) (by decide +kernel)
set_option maxRecDepth 20000 in
theorem gX12_end_X12_fails : GoodIn wsX12_end (wsV RX12 136 RX12 yX12_fails wsX12_fails) := goodIn_app (goodIn_of _ (by decide +kernel)) ggX12_end_X12_fails
theorem dX12_end_0 : decode cX12_end 0 = .ok (.aload_n 0, 1) := by decide +kernel
theorem dX12_end_1 : decode cX12_end 1 = .ok (.iload_n 1, 1) := by decide +kernel
theorem dX12_end_2 : decode cX12_end 2 = .ok (.ifCond .lt 11, 3) := by decide +kernel
theorem dX12_end_5 : decode cX12_end 5 = .ok (.iload_n 1, 1) := by decide +kernel
theorem dX12_end_6 : decode cX12_end 6 = .ok (.aload_n 0, 1) := by decide +kernel
theorem dX12_end_7 : decode cX12_end 7 = .ok (.getfield 133, 3) := by decide +kernel
theorem dX12_end_10 : decode cX12_end 10 = .ok (.if_icmp .le 7, 3) := by decide +kernel
theorem dX12_end_13 : decode cX12_end 13 = .ok (.iconst 1, 1) := by decide +kernel
theorem dX12_end_14 : decode cX12_end 14 = .ok (.goto 4, 3) := by decide +kernel
theorem dX12_end_17 : decode cX12_end 17 = .ok (.iconst 0, 1) := by decide +kernel
theorem dX12_end_18 : decode cX12_end 18 = .ok (.invokevirtual 136, 3) := by decide +kernel
theorem dX12_end_21 : decode cX12_end 21 = .ok (.ifCond .eq 5, 3) := by decide +kernel
theorem dX12_end_24 : decode cX12_end 24 = .ok (.iconst 0, 1) := by decide +kernel
theorem dX12_end_25 : decode cX12_end 25 = .ok (.ireturn, 1) := by decide +kernel
theorem dX12_end_26 : decode cX12_end 26 = .ok (.aload_n 0, 1) := by decide +kernel
theorem dX12_end_27 : decode cX12_end 27 = .ok (.iload_n 1, 1) := by decide +kernel
theorem dX12_end_28 : decode cX12_end 28 = .ok (.putfield 133, 3) := by decide +kernel
theorem dX12_end_31 : decode cX12_end 31 = .ok (.iload_n 1, 1) := by decide +kernel
theorem dX12_end_32 : decode cX12_end 32 = .ok (.ireturn, 1) := by decide +kernel
set_option maxRecDepth 20000 in
theorem ggX12_value_X12_fails : GoodIn wsX12_value wsX12_fails := goodIn_r _ [6, 7, 8, 9, 10, 11, 12, 13, 14, 15, 16, 17, 18, 19, 20, 21, 22, 23, 24, 25, 26, 27, 28, 29, 30, 31, 32, 33, 34, 35, 36, 37, 38, 39, 40, 41, 42, 43, 44, 45, 46, 47, 48, 49, 50, 51, 52, 53, 54, 55, 56, 57, 58, 59, 60, 61, 62, 63, 64] (by decide +kernel) (by decide +kernel)
set_option maxRecDepth 20000 in
theorem gX12_value_X12_fails : GoodIn wsX12_value (wsV RX12 136 RX12 yX12_fails wsX12_fails) := goodIn_app (goodIn_of _ (by decide +kernel)) ggX12_value_X12_fails
theorem dX12_value_0 : decode cX12_value 0 = .ok (.aload_n 0, 1) := by decide +kernel
theorem dX12_value_1 : decode cX12_value 1 = .ok (.iload_n 1, 1) := by decide +kernel
theorem dX12_value_2 : decode cX12_value 2 = .ok (.ifCond .lt 8, 3) := by decide +kernel
theorem dX12_value_5 : decode cX12_value 5 = .ok (.iload_n 1, 1) := by decide +kernel
theorem dX12_value_6 : decode cX12_value 6 = .ok (.iconst 3, 1) := by decide +kernel
theorem dX12_value_7 : decode cX12_value 7 = .ok (.if_icmp .le 7, 3) := by decide +kernel
theorem dX12_value_10 : decode cX12_value 10 = .ok (.iconst 1, 1) := by decide +kernel
theorem dX12_value_11 : decode cX12_value 11 = .ok (.goto 4, 3) := by decide +kernel
theorem dX12_value_14 : decode cX12_value 14 = .ok (.iconst 0, 1) := by decide +kernel
theorem dX12_value_15 : decode cX12_value 15 = .ok (.invokevirtual 136, 3) := by decide +kernel
theorem dX12_value_18 : decode cX12_value 18 = .ok (.ifCond .eq 5, 3) := by decide +kernel
theorem dX12_value_21 : decode cX12_value 21 = .ok (.iconst 0, 1) := by decide +kernel
theorem dX12_value_22 : decode cX12_value 22 = .ok (.ireturn, 1) := by decide +kernel
theorem dX12_value_23 : decode cX12_value 23 = .ok (.aload_n 0, 1) := by decide +kernel
theorem dX12_value_24 : decode cX12_value 24 = .ok (.getfield 17, 3) := by decide +kernel
theorem dX12_value_27 : decode cX12_value 27 = .ok (.iload_n 1, 1) := by decide +kernel
theorem dX12_value_28 : decode cX12_value 28 = .ok (.iaload, 1) := by decide +kernel
theorem dX12_value_29 : decode cX12_value 29 = .ok (.istore_n 3, 1) := by decide +kernel
theorem dX12_value_30 : decode cX12_value 30 = .ok (.aload_n 0, 1) := by decide +kernel
theorem dX12_value_31 : decode cX12_value 31 = .ok (.getfield 17, 3) := by decide +kernel
theorem dX12_value_34 : decode cX12_value 34 = .ok (.iload_n 1, 1) := by decide +kernel
theorem dX12_value_35 : decode cX12_value 35 = .ok (.iload_n 2, 1) := by decide +kernel
theorem dX12_value_36 : decode cX12_value 36 = .ok (.iastore, 1) := by decide +kernel
theorem dX12_value_37 : decode cX12_value 37 = .ok (.iload_n 3, 1) := by decide +kernel
theorem dX12_value_38 : decode cX12_value 38 = .ok (.ireturn, 1) := by decide +kernel
theorem dX12_isTable_0 : decode cX12_isTable 0 = .ok (.iload_n 1, 1) := by decide +kernel
theorem dX12_isTable_1 : decode cX12_isTable 1 = .ok (.ifCond .lt 15, 3) := by decide +kernel
theorem dX12_isTable_4 : decode cX12_isTable 4 = .ok (.iload_n 1, 1) := by decide +kernel
theorem dX12_isTable_5 : decode cX12_isTable 5 = .ok (.aload_n 0, 1) := by decide +kernel
theorem dX12_isTable_6 : decode cX12_isTable 6 = .ok (.getfield 144, 3) := by decide +kernel
theorem dX12_isTable_9 : decode cX12_isTable 9 = .ok (.if_icmp .ge 7, 3) := by decide +kernel
theorem dX12_isTable_12 : decode cX12_isTable 12 = .ok (.iconst 1, 1) := by decide +kernel
theorem dX12_isTable_13 : decode cX12_isTable 13 = .ok (.goto 4, 3) := by decide +kernel
theorem dX12_isTable_16 : decode cX12_isTable 16 = .ok (.iconst 0, 1) := by decide +kernel
theorem dX12_isTable_17 : decode cX12_isTable 17 = .ok (.ireturn, 1) := by decide +kernel
theorem dX12_isMask_0 : decode cX12_isMask 0 = .ok (.iload_n 1, 1) := by decide +kernel
theorem dX12_isMask_1 : decode cX12_isMask 1 = .ok (.ifCond .lt 13, 3) := by decide +kernel
theorem dX12_isMask_4 : decode cX12_isMask 4 = .ok (.iload_n 1, 1) := by decide +kernel
theorem dX12_isMask_5 : decode cX12_isMask 5 = .ok (.bipush 15, 2) := by decide +kernel
theorem dX12_isMask_7 : decode cX12_isMask 7 = .ok (.if_icmp .gt 7, 3) := by decide +kernel
theorem dX12_isMask_10 : decode cX12_isMask 10 = .ok (.iconst 1, 1) := by decide +kernel
theorem dX12_isMask_11 : decode cX12_isMask 11 = .ok (.goto 4, 3) := by decide +kernel
theorem dX12_isMask_14 : decode cX12_isMask 14 = .ok (.iconst 0, 1) := by decide +kernel
theorem dX12_isMask_15 : decode cX12_isMask 15 = .ok (.ireturn, 1) := by decide +kernel
theorem dX12_isTime_0 : decode cX12_isTime 0 = .ok (.iload_n 1, 1) := by decide +kernel
theorem dX12_isTime_1 : decode cX12_isTime 1 = .ok (.iconst (-1), 1) := by decide +kernel
theorem dX12_isTime_2 : decode cX12_isTime 2 = .ok (.if_icmp .eq 19, 3) := by decide +kernel
theorem dX12_isTime_5 : decode cX12_isTime 5 = .ok (.iload_n 1, 1) := by decide +kernel
theorem dX12_isTime_6 : decode cX12_isTime 6 = .ok (.aload_n 0, 1) := by decide +kernel
theorem dX12_isTime_7 : decode cX12_isTime 7 = .ok (.getfield 147, 3) := by decide +kernel
theorem dX12_isTime_10 : decode cX12_isTime 10 = .ok (.if_icmp .lt 15, 3) := by decide +kernel
theorem dX12_isTime_13 : decode cX12_isTime 13 = .ok (.iload_n 1, 1) := by decide +kernel
theorem dX12_isTime_14 : decode cX12_isTime 14 = .ok (.aload_n 0, 1) := by decide +kernel
theorem dX12_isTime_15 : decode cX12_isTime 15 = .ok (.getfield 150, 3) := by decide +kernel
theorem dX12_isTime_18 : decode cX12_isTime 18 = .ok (.if_icmp .gt 7, 3) := by decide +kernel
theorem dX12_isTime_21 : decode cX12_isTime 21 = .ok (.iconst 1, 1) := by decide +kernel
theorem dX12_isTime_22 : decode cX12_isTime 22 = .ok (.goto 4, 3) := by decide +kernel
theorem dX12_isTime_25 : decode cX12_isTime 25 = .ok (.iconst 0, 1) := by decide +kernel
theorem dX12_isTime_26 : decode cX12_isTime 26 = .ok (.ireturn, 1) := by decide +kernel
theorem dX12_timeOf_0 : decode cX12_timeOf 0 = .ok (.iload_n 1, 1) := by decide +kernel
theorem dX12_timeOf_1 : decode cX12_timeOf 1 = .ok (.iconst (-1), 1) := by decide +kernel
theorem dX12_timeOf_2 : decode cX12_timeOf 2 = .ok (.if_icmp .ne 10, 3) := by decide +kernel
theorem dX12_timeOf_5 : decode cX12_timeOf 5 = .ok (.aload_n 0, 1) := by decide +kernel
theorem dX12_timeOf_6 : decode cX12_timeOf 6 = .ok (.getfield 150, 3) := by decide +kernel
theorem dX12_timeOf_9 : decode cX12_timeOf 9 = .ok (.goto 4, 3) := by decide +kernel
theorem dX12_timeOf_12 : decode cX12_timeOf 12 = .ok (.iload_n 1, 1) := by decide +kernel
theorem dX12_timeOf_13 : decode cX12_timeOf 13 = .ok (.ireturn, 1) := by decide +kernel
set_option maxRecDepth 20000 in
theorem ggX12_table_X12_fails : GoodIn wsX12_table wsX12_fails := goodIn_r _ [11, 12, 13, 14, 15, 16, 17, 18, 19, 20, 21, 22, 23, 24, 25, 26, 27, 28, 29, 30, 31, 32, 33, 34, 35, 36, 37, 38, 39, 40, 41, 42, 43, 44, 45, 46, 47, 48, 49, 50, 51, 52, 53, 54, 55, 56, 57, 58, 59, 60, 61, 62, 63, 64, 65, 66, 67, 68, 69] (by decide +kernel) (by decide +kernel)
set_option maxRecDepth 20000 in
theorem gX12_table_X12_fails : GoodIn wsX12_table (wsV RX12 136 RX12 yX12_fails wsX12_fails) := goodIn_app (goodIn_of _ (by decide +kernel)) ggX12_table_X12_fails
theorem dX12_table_0 : decode cX12_table 0 = .ok (.aload_n 0, 1) := by decide +kernel
theorem dX12_table_1 : decode cX12_table 1 = .ok (.iload_n 1, 1) := by decide +kernel
theorem dX12_table_2 : decode cX12_table 2 = .ok (.iconst 1, 1) := by decide +kernel
theorem dX12_table_3 : decode cX12_table 3 = .ok (.if_icmp .lt 8, 3) := by decide +kernel
theorem dX12_table_6 : decode cX12_table 6 = .ok (.iload_n 1, 1) := by decide +kernel
theorem dX12_table_7 : decode cX12_table 7 = .ok (.iconst 4, 1) := by decide +kernel
theorem dX12_table_8 : decode cX12_table 8 = .ok (.if_icmp .le 7, 3) := by decide +kernel
theorem dX12_table_11 : decode cX12_table 11 = .ok (.iconst 1, 1) := by decide +kernel
theorem dX12_table_12 : decode cX12_table 12 = .ok (.goto 17, 3) := by decide +kernel
theorem dX12_table_15 : decode cX12_table 15 = .ok (.aload_n 0, 1) := by decide +kernel
theorem dX12_table_16 : decode cX12_table 16 = .ok (.getfield 144, 3) := by decide +kernel
theorem dX12_table_19 : decode cX12_table 19 = .ok (.bipush 12, 2) := by decide +kernel
theorem dX12_table_21 : decode cX12_table 21 = .ok (.if_icmp .ne 7, 3) := by decide +kernel
theorem dX12_table_24 : decode cX12_table 24 = .ok (.iconst 2, 1) := by decide +kernel
theorem dX12_table_25 : decode cX12_table 25 = .ok (.goto 4, 3) := by decide +kernel
theorem dX12_table_28 : decode cX12_table 28 = .ok (.iconst 0, 1) := by decide +kernel
theorem dX12_table_29 : decode cX12_table 29 = .ok (.invokevirtual 136, 3) := by decide +kernel
theorem dX12_table_32 : decode cX12_table 32 = .ok (.ifCond .eq 5, 3) := by decide +kernel
theorem dX12_table_35 : decode cX12_table 35 = .ok (.iconst 0, 1) := by decide +kernel
theorem dX12_table_36 : decode cX12_table 36 = .ok (.ireturn, 1) := by decide +kernel
theorem dX12_table_37 : decode cX12_table 37 = .ok (.aload_n 0, 1) := by decide +kernel
theorem dX12_table_38 : decode cX12_table 38 = .ok (.getfield 21, 3) := by decide +kernel
theorem dX12_table_41 : decode cX12_table 41 = .ok (.aload_n 0, 1) := by decide +kernel
theorem dX12_table_42 : decode cX12_table 42 = .ok (.getfield 144, 3) := by decide +kernel
theorem dX12_table_45 : decode cX12_table 45 = .ok (.iload_n 1, 1) := by decide +kernel
theorem dX12_table_46 : decode cX12_table 46 = .ok (.iastore, 1) := by decide +kernel
theorem dX12_table_47 : decode cX12_table 47 = .ok (.aload_n 0, 1) := by decide +kernel
theorem dX12_table_48 : decode cX12_table 48 = .ok (.getfield 24, 3) := by decide +kernel
theorem dX12_table_51 : decode cX12_table 51 = .ok (.aload_n 0, 1) := by decide +kernel
theorem dX12_table_52 : decode cX12_table 52 = .ok (.getfield 144, 3) := by decide +kernel
theorem dX12_table_55 : decode cX12_table 55 = .ok (.iconst 0, 1) := by decide +kernel
theorem dX12_table_56 : decode cX12_table 56 = .ok (.iastore, 1) := by decide +kernel
theorem dX12_table_57 : decode cX12_table 57 = .ok (.aload_n 0, 1) := by decide +kernel
theorem dX12_table_58 : decode cX12_table 58 = .ok (.getfield 27, 3) := by decide +kernel
theorem dX12_table_61 : decode cX12_table 61 = .ok (.aload_n 0, 1) := by decide +kernel
theorem dX12_table_62 : decode cX12_table 62 = .ok (.getfield 144, 3) := by decide +kernel
theorem dX12_table_65 : decode cX12_table 65 = .ok (.iconst 0, 1) := by decide +kernel
theorem dX12_table_66 : decode cX12_table 66 = .ok (.iastore, 1) := by decide +kernel
theorem dX12_table_67 : decode cX12_table 67 = .ok (.aload_n 0, 1) := by decide +kernel
theorem dX12_table_68 : decode cX12_table 68 = .ok (.getfield 30, 3) := by decide +kernel
theorem dX12_table_71 : decode cX12_table 71 = .ok (.aload_n 0, 1) := by decide +kernel
theorem dX12_table_72 : decode cX12_table 72 = .ok (.getfield 144, 3) := by decide +kernel
theorem dX12_table_75 : decode cX12_table 75 = .ok (.iconst (-1), 1) := by decide +kernel
theorem dX12_table_76 : decode cX12_table 76 = .ok (.iastore, 1) := by decide +kernel
theorem dX12_table_77 : decode cX12_table 77 = .ok (.aload_n 0, 1) := by decide +kernel
theorem dX12_table_78 : decode cX12_table 78 = .ok (.getfield 33, 3) := by decide +kernel
theorem dX12_table_81 : decode cX12_table 81 = .ok (.aload_n 0, 1) := by decide +kernel
theorem dX12_table_82 : decode cX12_table 82 = .ok (.getfield 144, 3) := by decide +kernel
theorem dX12_table_85 : decode cX12_table 85 = .ok (.iconst (-1), 1) := by decide +kernel
theorem dX12_table_86 : decode cX12_table 86 = .ok (.iastore, 1) := by decide +kernel
theorem dX12_table_87 : decode cX12_table 87 = .ok (.aload_n 0, 1) := by decide +kernel
theorem dX12_table_88 : decode cX12_table 88 = .ok (.dup, 1) := by decide +kernel
theorem dX12_table_89 : decode cX12_table 89 = .ok (.getfield 144, 3) := by decide +kernel
theorem dX12_table_92 : decode cX12_table 92 = .ok (.iconst 1, 1) := by decide +kernel
theorem dX12_table_93 : decode cX12_table 93 = .ok (.iadd, 1) := by decide +kernel
theorem dX12_table_94 : decode cX12_table 94 = .ok (.putfield 144, 3) := by decide +kernel
theorem dX12_table_97 : decode cX12_table 97 = .ok (.aload_n 0, 1) := by decide +kernel
theorem dX12_table_98 : decode cX12_table 98 = .ok (.getfield 144, 3) := by decide +kernel
theorem dX12_table_101 : decode cX12_table 101 = .ok (.iconst 1, 1) := by decide +kernel
theorem dX12_table_102 : decode cX12_table 102 = .ok (.isub, 1) := by decide +kernel
theorem dX12_table_103 : decode cX12_table 103 = .ok (.ireturn, 1) := by decide +kernel
set_option maxRecDepth 20000 in
theorem ggX12_index_X12_isTable : GoodIn wsX12_index wsX12_isTable := goodIn_r _ [7, 8, 14, 15, 16, 17, 18, 19, 20, 21, 22, 23, 24, 25, 26, 27, 28, 29, 30, 31, 32, 33, 34, 35, 36, 37, 38, 39, 40, 41, 42, 43, 44, 45, 46, 47, 48, 49, 50, 51, 52, 53, 54, 55, 56, 57, 58, 59, 60, 61, 62, 63, 64, 65, 66, 67, 68, 69, 70] (by decide +kernel) (by decide +kernel)
set_option maxRecDepth 20000 in
theorem gX12_index_X12_isTable : GoodIn wsX12_index (wsV RX12 153 RX12 yX12_isTable wsX12_isTable) := goodIn_app (goodIn_of _ (by decide +kernel)) ggX12_index_X12_isTable
set_option maxRecDepth 20000 in
theorem ggX12_index_X12_fails : GoodIn wsX12_index wsX12_fails := goodIn_r _ [12, 13, 14, 15, 16, 17, 18, 19, 20, 21, 22, 23, 24, 25, 26, 27, 28, 29, 30, 31, 32, 33, 34, 35, 36, 37, 38, 39, 40, 41, 42, 43, 44, 45, 46, 47, 48, 49, 50, 51, 52, 53, 54, 55, 56, 57, 58, 59, 60, 61, 62, 63, 64, 65, 66, 67, 68, 69, 70] (by decide +kernel) (by decide +kernel)
set_option maxRecDepth 20000 in
theorem gX12_index_X12_fails : GoodIn wsX12_index (wsV RX12 136 RX12 yX12_fails wsX12_fails) := goodIn_app (goodIn_of _ (by decide +kernel)) ggX12_index_X12_fails
theorem dX12_index_0 : decode cX12_index 0 = .ok (.aload_n 0, 1) := by decide +kernel
theorem dX12_index_1 : decode cX12_index 1 = .ok (.aload_n 0, 1) := by decide +kernel
theorem dX12_index_2 : decode cX12_index 2 = .ok (.iload_n 1, 1) := by decide +kernel
theorem dX12_index_3 : decode cX12_index 3 = .ok (.invokevirtual 153, 3) := by decide +kernel
theorem dX12_index_6 : decode cX12_index 6 = .ok (.ifCond .ne 7, 3) := by decide +kernel
theorem dX12_index_9 : decode cX12_index 9 = .ok (.iconst 1, 1) := by decide +kernel
theorem dX12_index_10 : decode cX12_index 10 = .ok (.goto 22, 3) := by decide +kernel
theorem dX12_index_13 : decode cX12_index 13 = .ok (.iload_n 2, 1) := by decide +kernel
theorem dX12_index_14 : decode cX12_index 14 = .ok (.ifCond .lt 13, 3) := by decide +kernel
theorem dX12_index_17 : decode cX12_index 17 = .ok (.iload_n 2, 1) := by decide +kernel
theorem dX12_index_18 : decode cX12_index 18 = .ok (.aload_n 0, 1) := by decide +kernel
theorem dX12_index_19 : decode cX12_index 19 = .ok (.getfield 21, 3) := by decide +kernel
theorem dX12_index_22 : decode cX12_index 22 = .ok (.iload_n 1, 1) := by decide +kernel
theorem dX12_index_23 : decode cX12_index 23 = .ok (.iaload, 1) := by decide +kernel
theorem dX12_index_24 : decode cX12_index 24 = .ok (.if_icmp .lt 7, 3) := by decide +kernel
theorem dX12_index_27 : decode cX12_index 27 = .ok (.iconst 2, 1) := by decide +kernel
theorem dX12_index_28 : decode cX12_index 28 = .ok (.goto 4, 3) := by decide +kernel
theorem dX12_index_31 : decode cX12_index 31 = .ok (.iconst 0, 1) := by decide +kernel
theorem dX12_index_32 : decode cX12_index 32 = .ok (.invokevirtual 136, 3) := by decide +kernel
theorem dX12_index_35 : decode cX12_index 35 = .ok (.ifCond .eq 5, 3) := by decide +kernel
theorem dX12_index_38 : decode cX12_index 38 = .ok (.iconst 0, 1) := by decide +kernel
theorem dX12_index_39 : decode cX12_index 39 = .ok (.ireturn, 1) := by decide +kernel
theorem dX12_index_40 : decode cX12_index 40 = .ok (.aload_n 0, 1) := by decide +kernel
theorem dX12_index_41 : decode cX12_index 41 = .ok (.getfield 24, 3) := by decide +kernel
theorem dX12_index_44 : decode cX12_index 44 = .ok (.iload_n 1, 1) := by decide +kernel
theorem dX12_index_45 : decode cX12_index 45 = .ok (.iaload, 1) := by decide +kernel
theorem dX12_index_46 : decode cX12_index 46 = .ok (.istore_n 3, 1) := by decide +kernel
theorem dX12_index_47 : decode cX12_index 47 = .ok (.aload_n 0, 1) := by decide +kernel
theorem dX12_index_48 : decode cX12_index 48 = .ok (.getfield 24, 3) := by decide +kernel
theorem dX12_index_51 : decode cX12_index 51 = .ok (.iload_n 1, 1) := by decide +kernel
theorem dX12_index_52 : decode cX12_index 52 = .ok (.dup2, 1) := by decide +kernel
theorem dX12_index_53 : decode cX12_index 53 = .ok (.iaload, 1) := by decide +kernel
theorem dX12_index_54 : decode cX12_index 54 = .ok (.iconst 1, 1) := by decide +kernel
theorem dX12_index_55 : decode cX12_index 55 = .ok (.iload_n 2, 1) := by decide +kernel
theorem dX12_index_56 : decode cX12_index 56 = .ok (.ishl, 1) := by decide +kernel
theorem dX12_index_57 : decode cX12_index 57 = .ok (.ior, 1) := by decide +kernel
theorem dX12_index_58 : decode cX12_index 58 = .ok (.iastore, 1) := by decide +kernel
theorem dX12_index_59 : decode cX12_index 59 = .ok (.iload_n 3, 1) := by decide +kernel
theorem dX12_index_60 : decode cX12_index 60 = .ok (.aload_n 0, 1) := by decide +kernel
theorem dX12_index_61 : decode cX12_index 61 = .ok (.getfield 24, 3) := by decide +kernel
theorem dX12_index_64 : decode cX12_index 64 = .ok (.iload_n 1, 1) := by decide +kernel
theorem dX12_index_65 : decode cX12_index 65 = .ok (.iaload, 1) := by decide +kernel
theorem dX12_index_66 : decode cX12_index 66 = .ok (.if_icmp .ne 7, 3) := by decide +kernel
theorem dX12_index_69 : decode cX12_index 69 = .ok (.iconst 0, 1) := by decide +kernel
theorem dX12_index_70 : decode cX12_index 70 = .ok (.goto 4, 3) := by decide +kernel
theorem dX12_index_73 : decode cX12_index 73 = .ok (.iconst 1, 1) := by decide +kernel
theorem dX12_index_74 : decode cX12_index 74 = .ok (.ireturn, 1) := by decide +kernel
set_option maxRecDepth 20000 in
theorem ggX12_key_X12_isTable : GoodIn wsX12_key wsX12_isTable := goodIn_r _ [11, 12, 29, 30, 31, 32, 33, 34, 35, 36, 37, 38, 39, 40, 41, 42, 43, 44, 45, 46, 47, 48, 49, 50, 51, 52, 53, 54, 55, 56, 57, 58, 59, 60, 61, 62, 63, 64, 65, 66, 67, 68, 69, 70, 71, 72, 73, 74, 75, 76, 77, 78, 79, 80, 81, 82, 83, 84, 85] (by decide +kernel) (by decide +kernel)
set_option maxRecDepth 20000 in
theorem gX12_key_X12_isTable : GoodIn wsX12_key (wsV RX12 153 RX12 yX12_isTable wsX12_isTable) := goodIn_app (goodIn_of _ (by decide +kernel)) ggX12_key_X12_isTable
set_option maxRecDepth 20000 in
theorem ggX12_key_X12_fails : GoodIn wsX12_key wsX12_fails := goodIn_r _ [16, 17, 29, 30, 31, 32, 33, 34, 35, 36, 37, 38, 39, 40, 41, 42, 43, 44, 45, 46, 47, 48, 49, 50, 51, 52, 53, 54, 55, 56, 57, 58, 59, 60, 61, 62, 63, 64, 65, 66, 67, 68, 69, 70, 71, 72, 73, 74, 75, 76, 77, 78, 79, 80, 81, 82, 83, 84, 85] (by decide +kernel) (by decide +kernel)
set_option maxRecDepth 20000 in
theorem gX12_key_X12_fails : GoodIn wsX12_key (wsV RX12 136 RX12 yX12_fails wsX12_fails) := goodIn_app (goodIn_of _ (by decide +kernel)) ggX12_key_X12_fails
theorem dX12_key_0 : decode cX12_key 0 = .ok (.aload_n 0, 1) := by decide +kernel
theorem dX12_key_1 : decode cX12_key 1 = .ok (.aload_n 0, 1) := by decide +kernel
theorem dX12_key_2 : decode cX12_key 2 = .ok (.iload_n 1, 1) := by decide +kernel
theorem dX12_key_3 : decode cX12_key 3 = .ok (.invokevirtual 153, 3) := by decide +kernel
theorem dX12_key_6 : decode cX12_key 6 = .ok (.ifCond .ne 7, 3) := by decide +kernel
theorem dX12_key_9 : decode cX12_key 9 = .ok (.iconst 1, 1) := by decide +kernel
theorem dX12_key_10 : decode cX12_key 10 = .ok (.goto 25, 3) := by decide +kernel
theorem dX12_key_13 : decode cX12_key 13 = .ok (.iload_n 2, 1) := by decide +kernel
theorem dX12_key_14 : decode cX12_key 14 = .ok (.iconst 1, 1) := by decide +kernel
theorem dX12_key_15 : decode cX12_key 15 = .ok (.if_icmp .lt 15, 3) := by decide +kernel
theorem dX12_key_18 : decode cX12_key 18 = .ok (.iload_n 2, 1) := by decide +kernel
theorem dX12_key_19 : decode cX12_key 19 = .ok (.iconst 1, 1) := by decide +kernel
theorem dX12_key_20 : decode cX12_key 20 = .ok (.aload_n 0, 1) := by decide +kernel
theorem dX12_key_21 : decode cX12_key 21 = .ok (.getfield 21, 3) := by decide +kernel
theorem dX12_key_24 : decode cX12_key 24 = .ok (.iload_n 1, 1) := by decide +kernel
theorem dX12_key_25 : decode cX12_key 25 = .ok (.iaload, 1) := by decide +kernel
theorem dX12_key_26 : decode cX12_key 26 = .ok (.ishl, 1) := by decide +kernel
theorem dX12_key_27 : decode cX12_key 27 = .ok (.if_icmp .lt 7, 3) := by decide +kernel
theorem dX12_key_30 : decode cX12_key 30 = .ok (.iconst 2, 1) := by decide +kernel
theorem dX12_key_31 : decode cX12_key 31 = .ok (.goto 4, 3) := by decide +kernel
theorem dX12_key_34 : decode cX12_key 34 = .ok (.iconst 0, 1) := by decide +kernel
theorem dX12_key_35 : decode cX12_key 35 = .ok (.invokevirtual 136, 3) := by decide +kernel
theorem dX12_key_38 : decode cX12_key 38 = .ok (.ifCond .eq 5, 3) := by decide +kernel
theorem dX12_key_41 : decode cX12_key 41 = .ok (.iconst 0, 1) := by decide +kernel
theorem dX12_key_42 : decode cX12_key 42 = .ok (.ireturn, 1) := by decide +kernel
theorem dX12_key_43 : decode cX12_key 43 = .ok (.iconst 0, 1) := by decide +kernel
theorem dX12_key_44 : decode cX12_key 44 = .ok (.istore_n 3, 1) := by decide +kernel
theorem dX12_key_45 : decode cX12_key 45 = .ok (.iload_n 3, 1) := by decide +kernel
theorem dX12_key_46 : decode cX12_key 46 = .ok (.aload_n 0, 1) := by decide +kernel
theorem dX12_key_47 : decode cX12_key 47 = .ok (.getfield 27, 3) := by decide +kernel
theorem dX12_key_50 : decode cX12_key 50 = .ok (.iload_n 1, 1) := by decide +kernel
theorem dX12_key_51 : decode cX12_key 51 = .ok (.iaload, 1) := by decide +kernel
theorem dX12_key_52 : decode cX12_key 52 = .ok (.if_icmp .ge 25, 3) := by decide +kernel
theorem dX12_key_55 : decode cX12_key 55 = .ok (.aload_n 0, 1) := by decide +kernel
theorem dX12_key_56 : decode cX12_key 56 = .ok (.getfield 36, 3) := by decide +kernel
theorem dX12_key_59 : decode cX12_key 59 = .ok (.iconst 3, 1) := by decide +kernel
theorem dX12_key_60 : decode cX12_key 60 = .ok (.iload_n 1, 1) := by decide +kernel
theorem dX12_key_61 : decode cX12_key 61 = .ok (.imul, 1) := by decide +kernel
theorem dX12_key_62 : decode cX12_key 62 = .ok (.iload_n 3, 1) := by decide +kernel
theorem dX12_key_63 : decode cX12_key 63 = .ok (.iadd, 1) := by decide +kernel
theorem dX12_key_64 : decode cX12_key 64 = .ok (.iaload, 1) := by decide +kernel
theorem dX12_key_65 : decode cX12_key 65 = .ok (.iload_n 2, 1) := by decide +kernel
theorem dX12_key_66 : decode cX12_key 66 = .ok (.if_icmp .ne 5, 3) := by decide +kernel
theorem dX12_key_69 : decode cX12_key 69 = .ok (.iconst 0, 1) := by decide +kernel
theorem dX12_key_70 : decode cX12_key 70 = .ok (.ireturn, 1) := by decide +kernel
theorem dX12_key_71 : decode cX12_key 71 = .ok (.iinc 3 1, 3) := by decide +kernel
theorem dX12_key_74 : decode cX12_key 74 = .ok (.goto (-29), 3) := by decide +kernel
theorem dX12_key_77 : decode cX12_key 77 = .ok (.iconst 0, 1) := by decide +kernel
theorem dX12_key_78 : decode cX12_key 78 = .ok (.istore_n 3, 1) := by decide +kernel
theorem dX12_key_79 : decode cX12_key 79 = .ok (.aload_n 0, 1) := by decide +kernel
theorem dX12_key_80 : decode cX12_key 80 = .ok (.getfield 30, 3) := by decide +kernel
theorem dX12_key_83 : decode cX12_key 83 = .ok (.iload_n 1, 1) := by decide +kernel
theorem dX12_key_84 : decode cX12_key 84 = .ok (.iaload, 1) := by decide +kernel
theorem dX12_key_85 : decode cX12_key 85 = .ok (.istore 4, 2) := by decide +kernel
theorem dX12_key_87 : decode cX12_key 87 = .ok (.iload 4, 2) := by decide +kernel
theorem dX12_key_89 : decode cX12_key 89 = .ok (.ifCond .lt 81, 3) := by decide +kernel
theorem dX12_key_92 : decode cX12_key 92 = .ok (.aload_n 0, 1) := by decide +kernel
theorem dX12_key_93 : decode cX12_key 93 = .ok (.getfield 61, 3) := by decide +kernel
theorem dX12_key_96 : decode cX12_key 96 = .ok (.iload 4, 2) := by decide +kernel
theorem dX12_key_98 : decode cX12_key 98 = .ok (.iaload, 1) := by decide +kernel
theorem dX12_key_99 : decode cX12_key 99 = .ok (.istore 5, 2) := by decide +kernel
theorem dX12_key_101 : decode cX12_key 101 = .ok (.iload 5, 2) := by decide +kernel
theorem dX12_key_103 : decode cX12_key 103 = .ok (.ifCond .lt 55, 3) := by decide +kernel
theorem dX12_key_106 : decode cX12_key 106 = .ok (.aload_n 0, 1) := by decide +kernel
theorem dX12_key_107 : decode cX12_key 107 = .ok (.iload 4, 2) := by decide +kernel
theorem dX12_key_109 : decode cX12_key 109 = .ok (.aload_n 0, 1) := by decide +kernel
theorem dX12_key_110 : decode cX12_key 110 = .ok (.getfield 150, 3) := by decide +kernel
theorem dX12_key_113 : decode cX12_key 113 = .ok (.invokevirtual 156, 3) := by decide +kernel
theorem dX12_key_116 : decode cX12_key 116 = .ok (.ifCond .eq 42, 3) := by decide +kernel
theorem dX12_key_119 : decode cX12_key 119 = .ok (.aload_n 0, 1) := by decide +kernel
theorem dX12_key_120 : decode cX12_key 120 = .ok (.iload 5, 2) := by decide +kernel
theorem dX12_key_122 : decode cX12_key 122 = .ok (.aload_n 0, 1) := by decide +kernel
theorem dX12_key_123 : decode cX12_key 123 = .ok (.getfield 150, 3) := by decide +kernel
theorem dX12_key_126 : decode cX12_key 126 = .ok (.invokevirtual 156, 3) := by decide +kernel
theorem dX12_key_129 : decode cX12_key 129 = .ok (.ifCond .eq 17, 3) := by decide +kernel
theorem dX12_key_132 : decode cX12_key 132 = .ok (.aload_n 0, 1) := by decide +kernel
theorem dX12_key_133 : decode cX12_key 133 = .ok (.iload 4, 2) := by decide +kernel
theorem dX12_key_135 : decode cX12_key 135 = .ok (.iload 5, 2) := by decide +kernel
theorem dX12_key_137 : decode cX12_key 137 = .ok (.iload_n 2, 1) := by decide +kernel
theorem dX12_key_138 : decode cX12_key 138 = .ok (.invokevirtual 160, 3) := by decide +kernel
theorem dX12_key_141 : decode cX12_key 141 = .ok (.ifCond .eq 5, 3) := by decide +kernel
theorem dX12_key_144 : decode cX12_key 144 = .ok (.iconst 1, 1) := by decide +kernel
theorem dX12_key_145 : decode cX12_key 145 = .ok (.istore_n 3, 1) := by decide +kernel
theorem dX12_key_146 : decode cX12_key 146 = .ok (.aload_n 0, 1) := by decide +kernel
theorem dX12_key_147 : decode cX12_key 147 = .ok (.getfield 61, 3) := by decide +kernel
theorem dX12_key_150 : decode cX12_key 150 = .ok (.iload 5, 2) := by decide +kernel
theorem dX12_key_152 : decode cX12_key 152 = .ok (.iaload, 1) := by decide +kernel
theorem dX12_key_153 : decode cX12_key 153 = .ok (.istore 5, 2) := by decide +kernel
theorem dX12_key_155 : decode cX12_key 155 = .ok (.goto (-54), 3) := by decide +kernel
theorem dX12_key_158 : decode cX12_key 158 = .ok (.aload_n 0, 1) := by decide +kernel
theorem dX12_key_159 : decode cX12_key 159 = .ok (.getfield 61, 3) := by decide +kernel
theorem dX12_key_162 : decode cX12_key 162 = .ok (.iload 4, 2) := by decide +kernel
theorem dX12_key_164 : decode cX12_key 164 = .ok (.iaload, 1) := by decide +kernel
theorem dX12_key_165 : decode cX12_key 165 = .ok (.istore 4, 2) := by decide +kernel
theorem dX12_key_167 : decode cX12_key 167 = .ok (.goto (-80), 3) := by decide +kernel
theorem dX12_key_170 : decode cX12_key 170 = .ok (.aload_n 0, 1) := by decide +kernel
theorem dX12_key_171 : decode cX12_key 171 = .ok (.iload_n 3, 1) := by decide +kernel
theorem dX12_key_172 : decode cX12_key 172 = .ok (.ifCond .eq 7, 3) := by decide +kernel
theorem dX12_key_175 : decode cX12_key 175 = .ok (.iconst 3, 1) := by decide +kernel
theorem dX12_key_176 : decode cX12_key 176 = .ok (.goto 18, 3) := by decide +kernel
theorem dX12_key_179 : decode cX12_key 179 = .ok (.aload_n 0, 1) := by decide +kernel
theorem dX12_key_180 : decode cX12_key 180 = .ok (.getfield 27, 3) := by decide +kernel
theorem dX12_key_183 : decode cX12_key 183 = .ok (.iload_n 1, 1) := by decide +kernel
theorem dX12_key_184 : decode cX12_key 184 = .ok (.iaload, 1) := by decide +kernel
theorem dX12_key_185 : decode cX12_key 185 = .ok (.iconst 3, 1) := by decide +kernel
theorem dX12_key_186 : decode cX12_key 186 = .ok (.if_icmp .ne 7, 3) := by decide +kernel
theorem dX12_key_189 : decode cX12_key 189 = .ok (.iconst 4, 1) := by decide +kernel
theorem dX12_key_190 : decode cX12_key 190 = .ok (.goto 4, 3) := by decide +kernel
theorem dX12_key_193 : decode cX12_key 193 = .ok (.iconst 0, 1) := by decide +kernel
theorem dX12_key_194 : decode cX12_key 194 = .ok (.invokevirtual 136, 3) := by decide +kernel
theorem dX12_key_197 : decode cX12_key 197 = .ok (.ifCond .eq 5, 3) := by decide +kernel
theorem dX12_key_200 : decode cX12_key 200 = .ok (.iconst 0, 1) := by decide +kernel
theorem dX12_key_201 : decode cX12_key 201 = .ok (.ireturn, 1) := by decide +kernel
theorem dX12_key_202 : decode cX12_key 202 = .ok (.aload_n 0, 1) := by decide +kernel
theorem dX12_key_203 : decode cX12_key 203 = .ok (.getfield 36, 3) := by decide +kernel
theorem dX12_key_206 : decode cX12_key 206 = .ok (.iconst 3, 1) := by decide +kernel
theorem dX12_key_207 : decode cX12_key 207 = .ok (.iload_n 1, 1) := by decide +kernel
theorem dX12_key_208 : decode cX12_key 208 = .ok (.imul, 1) := by decide +kernel
theorem dX12_key_209 : decode cX12_key 209 = .ok (.aload_n 0, 1) := by decide +kernel
theorem dX12_key_210 : decode cX12_key 210 = .ok (.getfield 27, 3) := by decide +kernel
theorem dX12_key_213 : decode cX12_key 213 = .ok (.iload_n 1, 1) := by decide +kernel
theorem dX12_key_214 : decode cX12_key 214 = .ok (.iaload, 1) := by decide +kernel
theorem dX12_key_215 : decode cX12_key 215 = .ok (.iadd, 1) := by decide +kernel
theorem dX12_key_216 : decode cX12_key 216 = .ok (.iload_n 2, 1) := by decide +kernel
theorem dX12_key_217 : decode cX12_key 217 = .ok (.iastore, 1) := by decide +kernel
theorem dX12_key_218 : decode cX12_key 218 = .ok (.aload_n 0, 1) := by decide +kernel
theorem dX12_key_219 : decode cX12_key 219 = .ok (.getfield 27, 3) := by decide +kernel
theorem dX12_key_222 : decode cX12_key 222 = .ok (.iload_n 1, 1) := by decide +kernel
theorem dX12_key_223 : decode cX12_key 223 = .ok (.dup2, 1) := by decide +kernel
theorem dX12_key_224 : decode cX12_key 224 = .ok (.iaload, 1) := by decide +kernel
theorem dX12_key_225 : decode cX12_key 225 = .ok (.iconst 1, 1) := by decide +kernel
theorem dX12_key_226 : decode cX12_key 226 = .ok (.iadd, 1) := by decide +kernel
theorem dX12_key_227 : decode cX12_key 227 = .ok (.iastore, 1) := by decide +kernel
theorem dX12_key_228 : decode cX12_key 228 = .ok (.iconst 1, 1) := by decide +kernel
theorem dX12_key_229 : decode cX12_key 229 = .ok (.ireturn, 1) := by decide +kernel
set_option maxRecDepth 20000 in
theorem ggX12_add_X12_isTable : GoodIn wsX12_add wsX12_isTable := goodIn_r _ [16, 17, 57, 58, 59, 60, 61, 62, 63, 64, 65, 66, 67, 68, 69, 70, 71, 72, 73, 74, 75, 76, 77, 78, 79, 80, 81, 82, 83, 84, 85, 86, 87, 88, 89, 90, 91, 92, 93, 94, 95, 96, 97, 98, 99, 100, 101, 102, 103, 104, 105, 106, 107, 108, 109, 110, 111, 112, 113] (by decide +kernel) (by decide +kernel)
set_option maxRecDepth 20000 in
theorem gX12_add_X12_isTable : GoodIn wsX12_add (wsV RX12 153 RX12 yX12_isTable wsX12_isTable) := goodIn_app (goodIn_of _ (by decide +kernel)) ggX12_add_X12_isTable
set_option maxRecDepth 20000 in
theorem ggX12_add_X12_fails : GoodIn wsX12_add wsX12_fails := goodIn_r _ [21, 22, 57, 58, 59, 60, 61, 62, 63, 64, 65, 66, 67, 68, 69, 70, 71, 72, 73, 74, 75, 76, 77, 78, 79, 80, 81, 82, 83, 84, 85, 86, 87, 88, 89, 90, 91, 92, 93, 94, 95, 96, 97, 98, 99, 100, 101, 102, 103, 104, 105, 106, 107, 108, 109, 110, 111, 112, 113] (by decide +kernel) (by decide +kernel)
set_option maxRecDepth 20000 in
theorem gX12_add_X12_fails : GoodIn wsX12_add (wsV RX12 136 RX12 yX12_fails wsX12_fails) := goodIn_app (goodIn_of _ (by decide +kernel)) ggX12_add_X12_fails
theorem dX12_add_0 : decode cX12_add 0 = .ok (.aload_n 0, 1) := by decide +kernel
theorem dX12_add_1 : decode cX12_add 1 = .ok (.iload_n 2, 1) := by decide +kernel
theorem dX12_add_2 : decode cX12_add 2 = .ok (.ifCond .lt 8, 3) := by decide +kernel
theorem dX12_add_5 : decode cX12_add 5 = .ok (.iload_n 2, 1) := by decide +kernel
theorem dX12_add_6 : decode cX12_add 6 = .ok (.iconst 1, 1) := by decide +kernel
theorem dX12_add_7 : decode cX12_add 7 = .ok (.if_icmp .le 7, 3) := by decide +kernel
theorem dX12_add_10 : decode cX12_add 10 = .ok (.iconst 1, 1) := by decide +kernel
theorem dX12_add_11 : decode cX12_add 11 = .ok (.goto 16, 3) := by decide +kernel
theorem dX12_add_14 : decode cX12_add 14 = .ok (.aload_n 0, 1) := by decide +kernel
theorem dX12_add_15 : decode cX12_add 15 = .ok (.iload_n 1, 1) := by decide +kernel
theorem dX12_add_16 : decode cX12_add 16 = .ok (.invokevirtual 153, 3) := by decide +kernel
theorem dX12_add_19 : decode cX12_add 19 = .ok (.ifCond .ne 7, 3) := by decide +kernel
theorem dX12_add_22 : decode cX12_add 22 = .ok (.iconst 2, 1) := by decide +kernel
theorem dX12_add_23 : decode cX12_add 23 = .ok (.goto 4, 3) := by decide +kernel
theorem dX12_add_26 : decode cX12_add 26 = .ok (.iconst 0, 1) := by decide +kernel
theorem dX12_add_27 : decode cX12_add 27 = .ok (.invokevirtual 136, 3) := by decide +kernel
theorem dX12_add_30 : decode cX12_add 30 = .ok (.ifCond .eq 5, 3) := by decide +kernel
theorem dX12_add_33 : decode cX12_add 33 = .ok (.iconst 0, 1) := by decide +kernel
theorem dX12_add_34 : decode cX12_add 34 = .ok (.ireturn, 1) := by decide +kernel
theorem dX12_add_35 : decode cX12_add 35 = .ok (.iconst 0, 1) := by decide +kernel
theorem dX12_add_36 : decode cX12_add 36 = .ok (.istore_n 3, 1) := by decide +kernel
theorem dX12_add_37 : decode cX12_add 37 = .ok (.aload_n 0, 1) := by decide +kernel
theorem dX12_add_38 : decode cX12_add 38 = .ok (.getfield 30, 3) := by decide +kernel
theorem dX12_add_41 : decode cX12_add 41 = .ok (.iload_n 1, 1) := by decide +kernel
theorem dX12_add_42 : decode cX12_add 42 = .ok (.iaload, 1) := by decide +kernel
theorem dX12_add_43 : decode cX12_add 43 = .ok (.istore 4, 2) := by decide +kernel
theorem dX12_add_45 : decode cX12_add 45 = .ok (.iload 4, 2) := by decide +kernel
theorem dX12_add_47 : decode cX12_add 47 = .ok (.ifCond .lt 75, 3) := by decide +kernel
theorem dX12_add_50 : decode cX12_add 50 = .ok (.iconst 0, 1) := by decide +kernel
theorem dX12_add_51 : decode cX12_add 51 = .ok (.istore 5, 2) := by decide +kernel
theorem dX12_add_53 : decode cX12_add 53 = .ok (.iload 5, 2) := by decide +kernel
theorem dX12_add_55 : decode cX12_add 55 = .ok (.aload_n 0, 1) := by decide +kernel
theorem dX12_add_56 : decode cX12_add 56 = .ok (.getfield 27, 3) := by decide +kernel
theorem dX12_add_59 : decode cX12_add 59 = .ok (.iload_n 1, 1) := by decide +kernel
theorem dX12_add_60 : decode cX12_add 60 = .ok (.iaload, 1) := by decide +kernel
theorem dX12_add_61 : decode cX12_add 61 = .ok (.if_icmp .ge 49, 3) := by decide +kernel
theorem dX12_add_64 : decode cX12_add 64 = .ok (.aload_n 0, 1) := by decide +kernel
theorem dX12_add_65 : decode cX12_add 65 = .ok (.iload 4, 2) := by decide +kernel
theorem dX12_add_67 : decode cX12_add 67 = .ok (.aload_n 0, 1) := by decide +kernel
theorem dX12_add_68 : decode cX12_add 68 = .ok (.getfield 150, 3) := by decide +kernel
theorem dX12_add_71 : decode cX12_add 71 = .ok (.invokevirtual 156, 3) := by decide +kernel
theorem dX12_add_74 : decode cX12_add 74 = .ok (.ifCond .eq 36, 3) := by decide +kernel
theorem dX12_add_77 : decode cX12_add 77 = .ok (.aload_n 0, 1) := by decide +kernel
theorem dX12_add_78 : decode cX12_add 78 = .ok (.iload 4, 2) := by decide +kernel
theorem dX12_add_80 : decode cX12_add 80 = .ok (.aload_n 0, 1) := by decide +kernel
theorem dX12_add_81 : decode cX12_add 81 = .ok (.getfield 36, 3) := by decide +kernel
theorem dX12_add_84 : decode cX12_add 84 = .ok (.iconst 3, 1) := by decide +kernel
theorem dX12_add_85 : decode cX12_add 85 = .ok (.iload_n 1, 1) := by decide +kernel
theorem dX12_add_86 : decode cX12_add 86 = .ok (.imul, 1) := by decide +kernel
theorem dX12_add_87 : decode cX12_add 87 = .ok (.iload 5, 2) := by decide +kernel
theorem dX12_add_89 : decode cX12_add 89 = .ok (.iadd, 1) := by decide +kernel
theorem dX12_add_90 : decode cX12_add 90 = .ok (.iaload, 1) := by decide +kernel
theorem dX12_add_91 : decode cX12_add 91 = .ok (.aload_n 0, 1) := by decide +kernel
theorem dX12_add_92 : decode cX12_add 92 = .ok (.getfield 17, 3) := by decide +kernel
theorem dX12_add_95 : decode cX12_add 95 = .ok (.iconst 0, 1) := by decide +kernel
theorem dX12_add_96 : decode cX12_add 96 = .ok (.invokevirtual 171, 3) := by decide +kernel
theorem dX12_add_99 : decode cX12_add 99 = .ok (.ifCond .eq 5, 3) := by decide +kernel
theorem dX12_add_102 : decode cX12_add 102 = .ok (.iconst 1, 1) := by decide +kernel
theorem dX12_add_103 : decode cX12_add 103 = .ok (.istore_n 3, 1) := by decide +kernel
theorem dX12_add_104 : decode cX12_add 104 = .ok (.iinc 5 1, 3) := by decide +kernel
theorem dX12_add_107 : decode cX12_add 107 = .ok (.goto (-54), 3) := by decide +kernel
theorem dX12_add_110 : decode cX12_add 110 = .ok (.aload_n 0, 1) := by decide +kernel
theorem dX12_add_111 : decode cX12_add 111 = .ok (.getfield 61, 3) := by decide +kernel
theorem dX12_add_114 : decode cX12_add 114 = .ok (.iload 4, 2) := by decide +kernel
theorem dX12_add_116 : decode cX12_add 116 = .ok (.iaload, 1) := by decide +kernel
theorem dX12_add_117 : decode cX12_add 117 = .ok (.istore 4, 2) := by decide +kernel
theorem dX12_add_119 : decode cX12_add 119 = .ok (.goto (-74), 3) := by decide +kernel
theorem dX12_add_122 : decode cX12_add 122 = .ok (.aload_n 0, 1) := by decide +kernel
theorem dX12_add_123 : decode cX12_add 123 = .ok (.iload_n 3, 1) := by decide +kernel
theorem dX12_add_124 : decode cX12_add 124 = .ok (.ifCond .eq 7, 3) := by decide +kernel
theorem dX12_add_127 : decode cX12_add 127 = .ok (.iconst 3, 1) := by decide +kernel
theorem dX12_add_128 : decode cX12_add 128 = .ok (.goto 18, 3) := by decide +kernel
theorem dX12_add_131 : decode cX12_add 131 = .ok (.aload_n 0, 1) := by decide +kernel
theorem dX12_add_132 : decode cX12_add 132 = .ok (.getfield 187, 3) := by decide +kernel
theorem dX12_add_135 : decode cX12_add 135 = .ok (.sipush 3000, 3) := by decide +kernel
theorem dX12_add_138 : decode cX12_add 138 = .ok (.if_icmp .ne 7, 3) := by decide +kernel
theorem dX12_add_141 : decode cX12_add 141 = .ok (.iconst 4, 1) := by decide +kernel
theorem dX12_add_142 : decode cX12_add 142 = .ok (.goto 4, 3) := by decide +kernel
theorem dX12_add_145 : decode cX12_add 145 = .ok (.iconst 0, 1) := by decide +kernel
theorem dX12_add_146 : decode cX12_add 146 = .ok (.invokevirtual 136, 3) := by decide +kernel
theorem dX12_add_149 : decode cX12_add 149 = .ok (.ifCond .eq 5, 3) := by decide +kernel
theorem dX12_add_152 : decode cX12_add 152 = .ok (.iconst 0, 1) := by decide +kernel
theorem dX12_add_153 : decode cX12_add 153 = .ok (.ireturn, 1) := by decide +kernel
theorem dX12_add_154 : decode cX12_add 154 = .ok (.aload_n 0, 1) := by decide +kernel
theorem dX12_add_155 : decode cX12_add 155 = .ok (.iload_n 1, 1) := by decide +kernel
theorem dX12_add_156 : decode cX12_add 156 = .ok (.invokevirtual 199, 3) := by decide +kernel
theorem dX12_add_159 : decode cX12_add 159 = .ok (.istore 4, 2) := by decide +kernel
theorem dX12_add_161 : decode cX12_add 161 = .ok (.iconst 0, 1) := by decide +kernel
theorem dX12_add_162 : decode cX12_add 162 = .ok (.istore 5, 2) := by decide +kernel
theorem dX12_add_164 : decode cX12_add 164 = .ok (.iload 5, 2) := by decide +kernel
theorem dX12_add_166 : decode cX12_add 166 = .ok (.iconst 4, 1) := by decide +kernel
theorem dX12_add_167 : decode cX12_add 167 = .ok (.if_icmp .ge 43, 3) := by decide +kernel
theorem dX12_add_170 : decode cX12_add 170 = .ok (.aload_n 0, 1) := by decide +kernel
theorem dX12_add_171 : decode cX12_add 171 = .ok (.getfield 46, 3) := by decide +kernel
theorem dX12_add_174 : decode cX12_add 174 = .ok (.iconst 4, 1) := by decide +kernel
theorem dX12_add_175 : decode cX12_add 175 = .ok (.iload 4, 2) := by decide +kernel
theorem dX12_add_177 : decode cX12_add 177 = .ok (.imul, 1) := by decide +kernel
theorem dX12_add_178 : decode cX12_add 178 = .ok (.iload 5, 2) := by decide +kernel
theorem dX12_add_180 : decode cX12_add 180 = .ok (.iadd, 1) := by decide +kernel
theorem dX12_add_181 : decode cX12_add 181 = .ok (.iload 5, 2) := by decide +kernel
theorem dX12_add_183 : decode cX12_add 183 = .ok (.aload_n 0, 1) := by decide +kernel
theorem dX12_add_184 : decode cX12_add 184 = .ok (.getfield 21, 3) := by decide +kernel
theorem dX12_add_187 : decode cX12_add 187 = .ok (.iload_n 1, 1) := by decide +kernel
theorem dX12_add_188 : decode cX12_add 188 = .ok (.iaload, 1) := by decide +kernel
theorem dX12_add_189 : decode cX12_add 189 = .ok (.if_icmp .ge 13, 3) := by decide +kernel
theorem dX12_add_192 : decode cX12_add 192 = .ok (.aload_n 0, 1) := by decide +kernel
theorem dX12_add_193 : decode cX12_add 193 = .ok (.getfield 17, 3) := by decide +kernel
theorem dX12_add_196 : decode cX12_add 196 = .ok (.iload 5, 2) := by decide +kernel
theorem dX12_add_198 : decode cX12_add 198 = .ok (.iaload, 1) := by decide +kernel
theorem dX12_add_199 : decode cX12_add 199 = .ok (.goto 4, 3) := by decide +kernel
theorem dX12_add_202 : decode cX12_add 202 = .ok (.iconst 0, 1) := by decide +kernel
theorem dX12_add_203 : decode cX12_add 203 = .ok (.iastore, 1) := by decide +kernel
theorem dX12_add_204 : decode cX12_add 204 = .ok (.iinc 5 1, 3) := by decide +kernel
theorem dX12_add_207 : decode cX12_add 207 = .ok (.goto (-43), 3) := by decide +kernel
theorem dX12_add_210 : decode cX12_add 210 = .ok (.aload_n 0, 1) := by decide +kernel
theorem dX12_add_211 : decode cX12_add 211 = .ok (.iload 4, 2) := by decide +kernel
theorem dX12_add_213 : decode cX12_add 213 = .ok (.iload_n 2, 1) := by decide +kernel
theorem dX12_add_214 : decode cX12_add 214 = .ok (.iconst 1, 1) := by decide +kernel
theorem dX12_add_215 : decode cX12_add 215 = .ok (.if_icmp .ne 7, 3) := by decide +kernel
theorem dX12_add_218 : decode cX12_add 218 = .ok (.iconst (-1), 1) := by decide +kernel
theorem dX12_add_219 : decode cX12_add 219 = .ok (.goto 9, 3) := by decide +kernel
theorem dX12_add_222 : decode cX12_add 222 = .ok (.aload_n 0, 1) := by decide +kernel
theorem dX12_add_223 : decode cX12_add 223 = .ok (.getfield 33, 3) := by decide +kernel
theorem dX12_add_226 : decode cX12_add 226 = .ok (.iload_n 1, 1) := by decide +kernel
theorem dX12_add_227 : decode cX12_add 227 = .ok (.iaload, 1) := by decide +kernel
theorem dX12_add_228 : decode cX12_add 228 = .ok (.invokevirtual 203, 3) := by decide +kernel
theorem dX12_add_231 : decode cX12_add 231 = .ok (.aload_n 0, 1) := by decide +kernel
theorem dX12_add_232 : decode cX12_add 232 = .ok (.getfield 49, 3) := by decide +kernel
theorem dX12_add_235 : decode cX12_add 235 = .ok (.iload 4, 2) := by decide +kernel
theorem dX12_add_237 : decode cX12_add 237 = .ok (.iaload, 1) := by decide +kernel
theorem dX12_add_238 : decode cX12_add 238 = .ok (.ireturn, 1) := by decide +kernel
set_option maxRecDepth 20000 in
theorem ggX12_remove_X12_isMask : GoodIn wsX12_remove wsX12_isMask := goodIn_r _ [11] (by decide +kernel) (by decide +kernel)
set_option maxRecDepth 20000 in
theorem gX12_remove_X12_isMask : GoodIn wsX12_remove (wsV RX12 207 RX12 yX12_isMask wsX12_isMask) := goodIn_app (goodIn_of _ (by decide +kernel)) ggX12_remove_X12_isMask
set_option maxRecDepth 20000 in
theorem ggX12_remove_X12_isTable : GoodIn wsX12_remove wsX12_isTable := goodIn_r _ [15, 16, 57, 58, 59, 60, 61, 62, 63, 64, 65, 66, 67, 68, 69, 70, 71, 72, 73, 74, 75, 76, 77, 78, 79, 80, 81, 82, 83, 84, 85, 86, 87, 88, 89, 90, 91, 92, 93, 94, 95, 96, 97, 98, 99, 100, 101, 102, 103, 104, 105, 106, 107, 108, 109, 110, 111, 112, 113] (by decide +kernel) (by decide +kernel)
set_option maxRecDepth 20000 in
theorem gX12_remove_X12_isTable : GoodIn wsX12_remove (wsV RX12 153 RX12 yX12_isTable wsX12_isTable) := goodIn_app (goodIn_of _ (by decide +kernel)) ggX12_remove_X12_isTable
set_option maxRecDepth 20000 in
theorem ggX12_remove_X12_fails : GoodIn wsX12_remove wsX12_fails := goodIn_r _ [20, 21, 57, 58, 59, 60, 61, 62, 63, 64, 65, 66, 67, 68, 69, 70, 71, 72, 73, 74, 75, 76, 77, 78, 79, 80, 81, 82, 83, 84, 85, 86, 87, 88, 89, 90, 91, 92, 93, 94, 95, 96, 97, 98, 99, 100, 101, 102, 103, 104, 105, 106, 107, 108, 109, 110, 111, 112, 113] (by decide +kernel) (by decide +kernel)
set_option maxRecDepth 20000 in
theorem gX12_remove_X12_fails : GoodIn wsX12_remove (wsV RX12 136 RX12 yX12_fails wsX12_fails) := goodIn_app (goodIn_of _ (by decide +kernel)) ggX12_remove_X12_fails
theorem dX12_remove_0 : decode cX12_remove 0 = .ok (.aload_n 0, 1) := by decide +kernel
theorem dX12_remove_1 : decode cX12_remove 1 = .ok (.aload_n 0, 1) := by decide +kernel
theorem dX12_remove_2 : decode cX12_remove 2 = .ok (.iload_n 2, 1) := by decide +kernel
theorem dX12_remove_3 : decode cX12_remove 3 = .ok (.invokevirtual 207, 3) := by decide +kernel
theorem dX12_remove_6 : decode cX12_remove 6 = .ok (.ifCond .eq 12, 3) := by decide +kernel
theorem dX12_remove_9 : decode cX12_remove 9 = .ok (.iload_n 3, 1) := by decide +kernel
theorem dX12_remove_10 : decode cX12_remove 10 = .ok (.ifCond .lt 8, 3) := by decide +kernel
theorem dX12_remove_13 : decode cX12_remove 13 = .ok (.iload_n 3, 1) := by decide +kernel
theorem dX12_remove_14 : decode cX12_remove 14 = .ok (.iconst 1, 1) := by decide +kernel
theorem dX12_remove_15 : decode cX12_remove 15 = .ok (.if_icmp .le 7, 3) := by decide +kernel
theorem dX12_remove_18 : decode cX12_remove 18 = .ok (.iconst 1, 1) := by decide +kernel
theorem dX12_remove_19 : decode cX12_remove 19 = .ok (.goto 16, 3) := by decide +kernel
theorem dX12_remove_22 : decode cX12_remove 22 = .ok (.aload_n 0, 1) := by decide +kernel
theorem dX12_remove_23 : decode cX12_remove 23 = .ok (.iload_n 1, 1) := by decide +kernel
theorem dX12_remove_24 : decode cX12_remove 24 = .ok (.invokevirtual 153, 3) := by decide +kernel
theorem dX12_remove_27 : decode cX12_remove 27 = .ok (.ifCond .ne 7, 3) := by decide +kernel
theorem dX12_remove_30 : decode cX12_remove 30 = .ok (.iconst 2, 1) := by decide +kernel
theorem dX12_remove_31 : decode cX12_remove 31 = .ok (.goto 4, 3) := by decide +kernel
theorem dX12_remove_34 : decode cX12_remove 34 = .ok (.iconst 0, 1) := by decide +kernel
theorem dX12_remove_35 : decode cX12_remove 35 = .ok (.invokevirtual 136, 3) := by decide +kernel
theorem dX12_remove_38 : decode cX12_remove 38 = .ok (.ifCond .eq 5, 3) := by decide +kernel
theorem dX12_remove_41 : decode cX12_remove 41 = .ok (.iconst 0, 1) := by decide +kernel
theorem dX12_remove_42 : decode cX12_remove 42 = .ok (.ireturn, 1) := by decide +kernel
theorem dX12_remove_43 : decode cX12_remove 43 = .ok (.aload_n 0, 1) := by decide +kernel
theorem dX12_remove_44 : decode cX12_remove 44 = .ok (.iconst 0, 1) := by decide +kernel
theorem dX12_remove_45 : decode cX12_remove 45 = .ok (.putfield 168, 3) := by decide +kernel
theorem dX12_remove_48 : decode cX12_remove 48 = .ok (.iconst 0, 1) := by decide +kernel
theorem dX12_remove_49 : decode cX12_remove 49 = .ok (.istore 4, 2) := by decide +kernel
theorem dX12_remove_51 : decode cX12_remove 51 = .ok (.aload_n 0, 1) := by decide +kernel
theorem dX12_remove_52 : decode cX12_remove 52 = .ok (.iload_n 1, 1) := by decide +kernel
theorem dX12_remove_53 : decode cX12_remove 53 = .ok (.aload_n 0, 1) := by decide +kernel
theorem dX12_remove_54 : decode cX12_remove 54 = .ok (.getfield 30, 3) := by decide +kernel
theorem dX12_remove_57 : decode cX12_remove 57 = .ok (.iload_n 1, 1) := by decide +kernel
theorem dX12_remove_58 : decode cX12_remove 58 = .ok (.iaload, 1) := by decide +kernel
theorem dX12_remove_59 : decode cX12_remove 59 = .ok (.iload_n 2, 1) := by decide +kernel
theorem dX12_remove_60 : decode cX12_remove 60 = .ok (.aload_n 0, 1) := by decide +kernel
theorem dX12_remove_61 : decode cX12_remove 61 = .ok (.getfield 150, 3) := by decide +kernel
theorem dX12_remove_64 : decode cX12_remove 64 = .ok (.aload_n 0, 1) := by decide +kernel
theorem dX12_remove_65 : decode cX12_remove 65 = .ok (.getfield 17, 3) := by decide +kernel
theorem dX12_remove_68 : decode cX12_remove 68 = .ok (.iconst 0, 1) := by decide +kernel
theorem dX12_remove_69 : decode cX12_remove 69 = .ok (.invokevirtual 210, 3) := by decide +kernel
theorem dX12_remove_72 : decode cX12_remove 72 = .ok (.istore 5, 2) := by decide +kernel
theorem dX12_remove_74 : decode cX12_remove 74 = .ok (.iload_n 3, 1) := by decide +kernel
theorem dX12_remove_75 : decode cX12_remove 75 = .ok (.ifCond .ne 24, 3) := by decide +kernel
theorem dX12_remove_78 : decode cX12_remove 78 = .ok (.iload 5, 2) := by decide +kernel
theorem dX12_remove_80 : decode cX12_remove 80 = .ok (.ifCond .ge 5, 3) := by decide +kernel
theorem dX12_remove_83 : decode cX12_remove 83 = .ok (.iconst (-1), 1) := by decide +kernel
theorem dX12_remove_84 : decode cX12_remove 84 = .ok (.ireturn, 1) := by decide +kernel
theorem dX12_remove_85 : decode cX12_remove 85 = .ok (.aload_n 0, 1) := by decide +kernel
theorem dX12_remove_86 : decode cX12_remove 86 = .ok (.iload 5, 2) := by decide +kernel
theorem dX12_remove_88 : decode cX12_remove 88 = .ok (.invokevirtual 214, 3) := by decide +kernel
theorem dX12_remove_91 : decode cX12_remove 91 = .ok (.aload_n 0, 1) := by decide +kernel
theorem dX12_remove_92 : decode cX12_remove 92 = .ok (.getfield 49, 3) := by decide +kernel
theorem dX12_remove_95 : decode cX12_remove 95 = .ok (.iload 5, 2) := by decide +kernel
theorem dX12_remove_97 : decode cX12_remove 97 = .ok (.iaload, 1) := by decide +kernel
theorem dX12_remove_98 : decode cX12_remove 98 = .ok (.ireturn, 1) := by decide +kernel
theorem dX12_remove_99 : decode cX12_remove 99 = .ok (.iload 5, 2) := by decide +kernel
theorem dX12_remove_101 : decode cX12_remove 101 = .ok (.ifCond .lt 39, 3) := by decide +kernel
theorem dX12_remove_104 : decode cX12_remove 104 = .ok (.aload_n 0, 1) := by decide +kernel
theorem dX12_remove_105 : decode cX12_remove 105 = .ok (.iload 5, 2) := by decide +kernel
theorem dX12_remove_107 : decode cX12_remove 107 = .ok (.invokevirtual 214, 3) := by decide +kernel
theorem dX12_remove_110 : decode cX12_remove 110 = .ok (.iinc 4 1, 3) := by decide +kernel
theorem dX12_remove_113 : decode cX12_remove 113 = .ok (.aload_n 0, 1) := by decide +kernel
theorem dX12_remove_114 : decode cX12_remove 114 = .ok (.iload_n 1, 1) := by decide +kernel
theorem dX12_remove_115 : decode cX12_remove 115 = .ok (.aload_n 0, 1) := by decide +kernel
theorem dX12_remove_116 : decode cX12_remove 116 = .ok (.getfield 61, 3) := by decide +kernel
theorem dX12_remove_119 : decode cX12_remove 119 = .ok (.iload 5, 2) := by decide +kernel
theorem dX12_remove_121 : decode cX12_remove 121 = .ok (.iaload, 1) := by decide +kernel
theorem dX12_remove_122 : decode cX12_remove 122 = .ok (.iload_n 2, 1) := by decide +kernel
theorem dX12_remove_123 : decode cX12_remove 123 = .ok (.aload_n 0, 1) := by decide +kernel
theorem dX12_remove_124 : decode cX12_remove 124 = .ok (.getfield 150, 3) := by decide +kernel
theorem dX12_remove_127 : decode cX12_remove 127 = .ok (.aload_n 0, 1) := by decide +kernel
theorem dX12_remove_128 : decode cX12_remove 128 = .ok (.getfield 17, 3) := by decide +kernel
theorem dX12_remove_131 : decode cX12_remove 131 = .ok (.iconst 0, 1) := by decide +kernel
theorem dX12_remove_132 : decode cX12_remove 132 = .ok (.invokevirtual 210, 3) := by decide +kernel
theorem dX12_remove_135 : decode cX12_remove 135 = .ok (.istore 5, 2) := by decide +kernel
theorem dX12_remove_137 : decode cX12_remove 137 = .ok (.goto (-38), 3) := by decide +kernel
theorem dX12_remove_140 : decode cX12_remove 140 = .ok (.iload 4, 2) := by decide +kernel
theorem dX12_remove_142 : decode cX12_remove 142 = .ok (.ireturn, 1) := by decide +kernel
set_option maxRecDepth 20000 in
theorem ggX12_find_X12_isMask : GoodIn wsX12_find wsX12_isMask := goodIn_r _ [9] (by decide +kernel) (by decide +kernel)
set_option maxRecDepth 20000 in
theorem gX12_find_X12_isMask : GoodIn wsX12_find (wsV RX12 207 RX12 yX12_isMask wsX12_isMask) := goodIn_app (goodIn_of _ (by decide +kernel)) ggX12_find_X12_isMask
set_option maxRecDepth 20000 in
theorem ggX12_find_X12_isTime : GoodIn wsX12_find wsX12_isTime := goodIn_r _ [13, 14, 15, 55, 56, 57, 58, 59, 60, 61, 62, 63, 64, 65, 66, 67, 68, 69, 70, 71, 72, 73, 74, 75, 76, 77, 78, 79, 80, 81, 82, 83, 84, 85, 86, 87, 88, 89, 90, 91, 92, 93, 94, 95, 96, 97, 98, 99, 100, 101, 102, 103, 104, 105, 106, 107, 108, 109, 110, 111] (by decide +kernel) (by decide +kernel)
set_option maxRecDepth 20000 in
theorem gX12_find_X12_isTime : GoodIn wsX12_find (wsV RX12 217 RX12 yX12_isTime wsX12_isTime) := goodIn_app (goodIn_of _ (by decide +kernel)) ggX12_find_X12_isTime
set_option maxRecDepth 20000 in
theorem ggX12_find_X12_isTable : GoodIn wsX12_find wsX12_isTable := goodIn_r _ [19, 20, 55, 56, 57, 58, 59, 60, 61, 62, 63, 64, 65, 66, 67, 68, 69, 70, 71, 72, 73, 74, 75, 76, 77, 78, 79, 80, 81, 82, 83, 84, 85, 86, 87, 88, 89, 90, 91, 92, 93, 94, 95, 96, 97, 98, 99, 100, 101, 102, 103, 104, 105, 106, 107, 108, 109, 110, 111] (by decide +kernel) (by decide +kernel)
set_option maxRecDepth 20000 in
theorem gX12_find_X12_isTable : GoodIn wsX12_find (wsV RX12 153 RX12 yX12_isTable wsX12_isTable) := goodIn_app (goodIn_of _ (by decide +kernel)) ggX12_find_X12_isTable
set_option maxRecDepth 20000 in
theorem ggX12_find_X12_fails : GoodIn wsX12_find wsX12_fails := goodIn_r _ [24, 25, 55, 56, 57, 58, 59, 60, 61, 62, 63, 64, 65, 66, 67, 68, 69, 70, 71, 72, 73, 74, 75, 76, 77, 78, 79, 80, 81, 82, 83, 84, 85, 86, 87, 88, 89, 90, 91, 92, 93, 94, 95, 96, 97, 98, 99, 100, 101, 102, 103, 104, 105, 106, 107, 108, 109, 110, 111] (by decide +kernel) (by decide +kernel)
set_option maxRecDepth 20000 in
theorem gX12_find_X12_fails : GoodIn wsX12_find (wsV RX12 136 RX12 yX12_fails wsX12_fails) := goodIn_app (goodIn_of _ (by decide +kernel)) ggX12_find_X12_fails
set_option maxRecDepth 20000 in
theorem ggX12_find_X12_timeOf : GoodIn wsX12_find wsX12_timeOf := goodIn_r _ [29, 15, 55, 56, 57, 58, 59, 60, 61, 62, 63, 64, 65, 66, 67, 68, 69, 70, 71, 72, 73, 74, 75, 76, 77, 78, 79, 80, 81, 82, 83, 84, 85, 86, 87, 88, 89, 90, 91, 92, 93, 94, 95, 96, 97, 98, 99, 100, 101, 102, 103, 104, 105, 106, 107, 108, 109, 110, 111] (by decide +kernel) (by decide +kernel)
set_option maxRecDepth 20000 in
theorem gX12_find_X12_timeOf : GoodIn wsX12_find (wsV RX12 220 RX12 yX12_timeOf wsX12_timeOf) := goodIn_app (goodIn_of _ (by decide +kernel)) ggX12_find_X12_timeOf
theorem dX12_find_0 : decode cX12_find 0 = .ok (.aload_n 0, 1) := by decide +kernel
theorem dX12_find_1 : decode cX12_find 1 = .ok (.aload_n 0, 1) := by decide +kernel
theorem dX12_find_2 : decode cX12_find 2 = .ok (.iload_n 2, 1) := by decide +kernel
theorem dX12_find_3 : decode cX12_find 3 = .ok (.invokevirtual 207, 3) := by decide +kernel
theorem dX12_find_6 : decode cX12_find 6 = .ok (.ifCond .eq 11, 3) := by decide +kernel
theorem dX12_find_9 : decode cX12_find 9 = .ok (.aload_n 0, 1) := by decide +kernel
theorem dX12_find_10 : decode cX12_find 10 = .ok (.iload_n 3, 1) := by decide +kernel
theorem dX12_find_11 : decode cX12_find 11 = .ok (.invokevirtual 217, 3) := by decide +kernel
theorem dX12_find_14 : decode cX12_find 14 = .ok (.ifCond .ne 7, 3) := by decide +kernel
theorem dX12_find_17 : decode cX12_find 17 = .ok (.iconst 1, 1) := by decide +kernel
theorem dX12_find_18 : decode cX12_find 18 = .ok (.goto 16, 3) := by decide +kernel
theorem dX12_find_21 : decode cX12_find 21 = .ok (.aload_n 0, 1) := by decide +kernel
theorem dX12_find_22 : decode cX12_find 22 = .ok (.iload_n 1, 1) := by decide +kernel
theorem dX12_find_23 : decode cX12_find 23 = .ok (.invokevirtual 153, 3) := by decide +kernel
theorem dX12_find_26 : decode cX12_find 26 = .ok (.ifCond .ne 7, 3) := by decide +kernel
theorem dX12_find_29 : decode cX12_find 29 = .ok (.iconst 2, 1) := by decide +kernel
theorem dX12_find_30 : decode cX12_find 30 = .ok (.goto 4, 3) := by decide +kernel
theorem dX12_find_33 : decode cX12_find 33 = .ok (.iconst 0, 1) := by decide +kernel
theorem dX12_find_34 : decode cX12_find 34 = .ok (.invokevirtual 136, 3) := by decide +kernel
theorem dX12_find_37 : decode cX12_find 37 = .ok (.ifCond .eq 5, 3) := by decide +kernel
theorem dX12_find_40 : decode cX12_find 40 = .ok (.iconst 0, 1) := by decide +kernel
theorem dX12_find_41 : decode cX12_find 41 = .ok (.ireturn, 1) := by decide +kernel
theorem dX12_find_42 : decode cX12_find 42 = .ok (.aload_n 0, 1) := by decide +kernel
theorem dX12_find_43 : decode cX12_find 43 = .ok (.iconst 0, 1) := by decide +kernel
theorem dX12_find_44 : decode cX12_find 44 = .ok (.putfield 168, 3) := by decide +kernel
theorem dX12_find_47 : decode cX12_find 47 = .ok (.aload_n 0, 1) := by decide +kernel
theorem dX12_find_48 : decode cX12_find 48 = .ok (.iload_n 1, 1) := by decide +kernel
theorem dX12_find_49 : decode cX12_find 49 = .ok (.aload_n 0, 1) := by decide +kernel
theorem dX12_find_50 : decode cX12_find 50 = .ok (.getfield 30, 3) := by decide +kernel
theorem dX12_find_53 : decode cX12_find 53 = .ok (.iload_n 1, 1) := by decide +kernel
theorem dX12_find_54 : decode cX12_find 54 = .ok (.iaload, 1) := by decide +kernel
theorem dX12_find_55 : decode cX12_find 55 = .ok (.iload_n 2, 1) := by decide +kernel
theorem dX12_find_56 : decode cX12_find 56 = .ok (.aload_n 0, 1) := by decide +kernel
theorem dX12_find_57 : decode cX12_find 57 = .ok (.iload_n 3, 1) := by decide +kernel
theorem dX12_find_58 : decode cX12_find 58 = .ok (.invokevirtual 220, 3) := by decide +kernel
theorem dX12_find_61 : decode cX12_find 61 = .ok (.aload_n 0, 1) := by decide +kernel
theorem dX12_find_62 : decode cX12_find 62 = .ok (.getfield 17, 3) := by decide +kernel
theorem dX12_find_65 : decode cX12_find 65 = .ok (.iconst 0, 1) := by decide +kernel
theorem dX12_find_66 : decode cX12_find 66 = .ok (.invokevirtual 210, 3) := by decide +kernel
theorem dX12_find_69 : decode cX12_find 69 = .ok (.istore 4, 2) := by decide +kernel
theorem dX12_find_71 : decode cX12_find 71 = .ok (.iload 4, 2) := by decide +kernel
theorem dX12_find_73 : decode cX12_find 73 = .ok (.ifCond .ge 7, 3) := by decide +kernel
theorem dX12_find_76 : decode cX12_find 76 = .ok (.iconst (-1), 1) := by decide +kernel
theorem dX12_find_77 : decode cX12_find 77 = .ok (.goto 10, 3) := by decide +kernel
theorem dX12_find_80 : decode cX12_find 80 = .ok (.aload_n 0, 1) := by decide +kernel
theorem dX12_find_81 : decode cX12_find 81 = .ok (.getfield 49, 3) := by decide +kernel
theorem dX12_find_84 : decode cX12_find 84 = .ok (.iload 4, 2) := by decide +kernel
theorem dX12_find_86 : decode cX12_find 86 = .ok (.iaload, 1) := by decide +kernel
theorem dX12_find_87 : decode cX12_find 87 = .ok (.ireturn, 1) := by decide +kernel
set_option maxRecDepth 20000 in
theorem ggX12_many_X12_isMask : GoodIn wsX12_many wsX12_isMask := goodIn_r _ [9] (by decide +kernel) (by decide +kernel)
set_option maxRecDepth 20000 in
theorem gX12_many_X12_isMask : GoodIn wsX12_many (wsV RX12 207 RX12 yX12_isMask wsX12_isMask) := goodIn_app (goodIn_of _ (by decide +kernel)) ggX12_many_X12_isMask
set_option maxRecDepth 20000 in
theorem ggX12_many_X12_isTime : GoodIn wsX12_many wsX12_isTime := goodIn_r _ [13, 14, 15, 54, 55, 56, 57, 58, 59, 60, 61, 62, 63, 64, 65, 66, 67, 68, 69, 70, 71, 72, 73, 74, 75, 76, 77, 78, 79, 80, 81, 82, 83, 84, 85, 86, 87, 88, 89, 90, 91, 92, 93, 94, 95, 96, 97, 98, 99, 100, 101, 102, 103, 104, 105, 106, 107, 108, 109, 110] (by decide +kernel) (by decide +kernel)
set_option maxRecDepth 20000 in
theorem gX12_many_X12_isTime : GoodIn wsX12_many (wsV RX12 217 RX12 yX12_isTime wsX12_isTime) := goodIn_app (goodIn_of _ (by decide +kernel)) ggX12_many_X12_isTime
set_option maxRecDepth 20000 in
theorem ggX12_many_X12_isTable : GoodIn wsX12_many wsX12_isTable := goodIn_r _ [19, 20, 54, 55, 56, 57, 58, 59, 60, 61, 62, 63, 64, 65, 66, 67, 68, 69, 70, 71, 72, 73, 74, 75, 76, 77, 78, 79, 80, 81, 82, 83, 84, 85, 86, 87, 88, 89, 90, 91, 92, 93, 94, 95, 96, 97, 98, 99, 100, 101, 102, 103, 104, 105, 106, 107, 108, 109, 110] (by decide +kernel) (by decide +kernel)
set_option maxRecDepth 20000 in
theorem gX12_many_X12_isTable : GoodIn wsX12_many (wsV RX12 153 RX12 yX12_isTable wsX12_isTable) := goodIn_app (goodIn_of _ (by decide +kernel)) ggX12_many_X12_isTable
set_option maxRecDepth 20000 in
theorem ggX12_many_X12_fails : GoodIn wsX12_many wsX12_fails := goodIn_r _ [24, 25, 54, 55, 56, 57, 58, 59, 60, 61, 62, 63, 64, 65, 66, 67, 68, 69, 70, 71, 72, 73, 74, 75, 76, 77, 78, 79, 80, 81, 82, 83, 84, 85, 86, 87, 88, 89, 90, 91, 92, 93, 94, 95, 96, 97, 98, 99, 100, 101, 102, 103, 104, 105, 106, 107, 108, 109, 110] (by decide +kernel) (by decide +kernel)
set_option maxRecDepth 20000 in
theorem gX12_many_X12_fails : GoodIn wsX12_many (wsV RX12 136 RX12 yX12_fails wsX12_fails) := goodIn_app (goodIn_of _ (by decide +kernel)) ggX12_many_X12_fails
set_option maxRecDepth 20000 in
theorem ggX12_many_X12_timeOf : GoodIn wsX12_many wsX12_timeOf := goodIn_r _ [29, 15, 54, 55, 56, 57, 58, 59, 60, 61, 62, 63, 64, 65, 66, 67, 68, 69, 70, 71, 72, 73, 74, 75, 76, 77, 78, 79, 80, 81, 82, 83, 84, 85, 86, 87, 88, 89, 90, 91, 92, 93, 94, 95, 96, 97, 98, 99, 100, 101, 102, 103, 104, 105, 106, 107, 108, 109, 110] (by decide +kernel) (by decide +kernel)
set_option maxRecDepth 20000 in
theorem gX12_many_X12_timeOf : GoodIn wsX12_many (wsV RX12 220 RX12 yX12_timeOf wsX12_timeOf) := goodIn_app (goodIn_of _ (by decide +kernel)) ggX12_many_X12_timeOf
theorem dX12_many_0 : decode cX12_many 0 = .ok (.aload_n 0, 1) := by decide +kernel
theorem dX12_many_1 : decode cX12_many 1 = .ok (.aload_n 0, 1) := by decide +kernel
theorem dX12_many_2 : decode cX12_many 2 = .ok (.iload_n 2, 1) := by decide +kernel
theorem dX12_many_3 : decode cX12_many 3 = .ok (.invokevirtual 207, 3) := by decide +kernel
theorem dX12_many_6 : decode cX12_many 6 = .ok (.ifCond .eq 11, 3) := by decide +kernel
theorem dX12_many_9 : decode cX12_many 9 = .ok (.aload_n 0, 1) := by decide +kernel
theorem dX12_many_10 : decode cX12_many 10 = .ok (.iload_n 3, 1) := by decide +kernel
theorem dX12_many_11 : decode cX12_many 11 = .ok (.invokevirtual 217, 3) := by decide +kernel
theorem dX12_many_14 : decode cX12_many 14 = .ok (.ifCond .ne 7, 3) := by decide +kernel
theorem dX12_many_17 : decode cX12_many 17 = .ok (.iconst 1, 1) := by decide +kernel
theorem dX12_many_18 : decode cX12_many 18 = .ok (.goto 16, 3) := by decide +kernel
theorem dX12_many_21 : decode cX12_many 21 = .ok (.aload_n 0, 1) := by decide +kernel
theorem dX12_many_22 : decode cX12_many 22 = .ok (.iload_n 1, 1) := by decide +kernel
theorem dX12_many_23 : decode cX12_many 23 = .ok (.invokevirtual 153, 3) := by decide +kernel
theorem dX12_many_26 : decode cX12_many 26 = .ok (.ifCond .ne 7, 3) := by decide +kernel
theorem dX12_many_29 : decode cX12_many 29 = .ok (.iconst 2, 1) := by decide +kernel
theorem dX12_many_30 : decode cX12_many 30 = .ok (.goto 4, 3) := by decide +kernel
theorem dX12_many_33 : decode cX12_many 33 = .ok (.iconst 0, 1) := by decide +kernel
theorem dX12_many_34 : decode cX12_many 34 = .ok (.invokevirtual 136, 3) := by decide +kernel
theorem dX12_many_37 : decode cX12_many 37 = .ok (.ifCond .eq 5, 3) := by decide +kernel
theorem dX12_many_40 : decode cX12_many 40 = .ok (.iconst 0, 1) := by decide +kernel
theorem dX12_many_41 : decode cX12_many 41 = .ok (.ireturn, 1) := by decide +kernel
theorem dX12_many_42 : decode cX12_many 42 = .ok (.aload_n 0, 1) := by decide +kernel
theorem dX12_many_43 : decode cX12_many 43 = .ok (.iconst 0, 1) := by decide +kernel
theorem dX12_many_44 : decode cX12_many 44 = .ok (.putfield 168, 3) := by decide +kernel
theorem dX12_many_47 : decode cX12_many 47 = .ok (.iconst 0, 1) := by decide +kernel
theorem dX12_many_48 : decode cX12_many 48 = .ok (.istore 4, 2) := by decide +kernel
theorem dX12_many_50 : decode cX12_many 50 = .ok (.aload_n 0, 1) := by decide +kernel
theorem dX12_many_51 : decode cX12_many 51 = .ok (.iload_n 1, 1) := by decide +kernel
theorem dX12_many_52 : decode cX12_many 52 = .ok (.aload_n 0, 1) := by decide +kernel
theorem dX12_many_53 : decode cX12_many 53 = .ok (.getfield 30, 3) := by decide +kernel
theorem dX12_many_56 : decode cX12_many 56 = .ok (.iload_n 1, 1) := by decide +kernel
theorem dX12_many_57 : decode cX12_many 57 = .ok (.iaload, 1) := by decide +kernel
theorem dX12_many_58 : decode cX12_many 58 = .ok (.iload_n 2, 1) := by decide +kernel
theorem dX12_many_59 : decode cX12_many 59 = .ok (.aload_n 0, 1) := by decide +kernel
theorem dX12_many_60 : decode cX12_many 60 = .ok (.iload_n 3, 1) := by decide +kernel
theorem dX12_many_61 : decode cX12_many 61 = .ok (.invokevirtual 220, 3) := by decide +kernel
theorem dX12_many_64 : decode cX12_many 64 = .ok (.aload_n 0, 1) := by decide +kernel
theorem dX12_many_65 : decode cX12_many 65 = .ok (.getfield 17, 3) := by decide +kernel
theorem dX12_many_68 : decode cX12_many 68 = .ok (.iconst 0, 1) := by decide +kernel
theorem dX12_many_69 : decode cX12_many 69 = .ok (.invokevirtual 210, 3) := by decide +kernel
theorem dX12_many_72 : decode cX12_many 72 = .ok (.istore 5, 2) := by decide +kernel
theorem dX12_many_74 : decode cX12_many 74 = .ok (.iload 5, 2) := by decide +kernel
theorem dX12_many_76 : decode cX12_many 76 = .ok (.ifCond .lt 34, 3) := by decide +kernel
theorem dX12_many_79 : decode cX12_many 79 = .ok (.iinc 4 1, 3) := by decide +kernel
theorem dX12_many_82 : decode cX12_many 82 = .ok (.aload_n 0, 1) := by decide +kernel
theorem dX12_many_83 : decode cX12_many 83 = .ok (.iload_n 1, 1) := by decide +kernel
theorem dX12_many_84 : decode cX12_many 84 = .ok (.aload_n 0, 1) := by decide +kernel
theorem dX12_many_85 : decode cX12_many 85 = .ok (.getfield 61, 3) := by decide +kernel
theorem dX12_many_88 : decode cX12_many 88 = .ok (.iload 5, 2) := by decide +kernel
theorem dX12_many_90 : decode cX12_many 90 = .ok (.iaload, 1) := by decide +kernel
theorem dX12_many_91 : decode cX12_many 91 = .ok (.iload_n 2, 1) := by decide +kernel
theorem dX12_many_92 : decode cX12_many 92 = .ok (.aload_n 0, 1) := by decide +kernel
theorem dX12_many_93 : decode cX12_many 93 = .ok (.iload_n 3, 1) := by decide +kernel
theorem dX12_many_94 : decode cX12_many 94 = .ok (.invokevirtual 220, 3) := by decide +kernel
theorem dX12_many_97 : decode cX12_many 97 = .ok (.aload_n 0, 1) := by decide +kernel
theorem dX12_many_98 : decode cX12_many 98 = .ok (.getfield 17, 3) := by decide +kernel
theorem dX12_many_101 : decode cX12_many 101 = .ok (.iconst 0, 1) := by decide +kernel
theorem dX12_many_102 : decode cX12_many 102 = .ok (.invokevirtual 210, 3) := by decide +kernel
theorem dX12_many_105 : decode cX12_many 105 = .ok (.istore 5, 2) := by decide +kernel
theorem dX12_many_107 : decode cX12_many 107 = .ok (.goto (-33), 3) := by decide +kernel
theorem dX12_many_110 : decode cX12_many 110 = .ok (.iload 4, 2) := by decide +kernel
theorem dX12_many_112 : decode cX12_many 112 = .ok (.ireturn, 1) := by decide +kernel
set_option maxRecDepth 20000 in
theorem ggX12_open_X12_isMask : GoodIn wsX12_open wsX12_isMask := goodIn_r _ [14] (by decide +kernel) (by decide +kernel)
set_option maxRecDepth 20000 in
theorem gX12_open_X12_isMask : GoodIn wsX12_open (wsV RX12 207 RX12 yX12_isMask wsX12_isMask) := goodIn_app (goodIn_of _ (by decide +kernel)) ggX12_open_X12_isMask
set_option maxRecDepth 20000 in
theorem ggX12_open_X12_isTime : GoodIn wsX12_open wsX12_isTime := goodIn_r _ [18, 19, 20, 35, 36, 37, 38, 39, 40, 41, 42, 43, 44, 45, 46, 47, 48, 49, 50, 51, 52, 53, 54, 55, 56, 57, 58, 59, 60, 61, 62, 63, 64, 65, 66, 67, 68, 69, 70, 71, 72, 73, 74, 75, 76, 77, 78, 79, 80, 81, 82, 83, 84, 85, 86, 87, 88, 89, 90, 91] (by decide +kernel) (by decide +kernel)
set_option maxRecDepth 20000 in
theorem gX12_open_X12_isTime : GoodIn wsX12_open (wsV RX12 217 RX12 yX12_isTime wsX12_isTime) := goodIn_app (goodIn_of _ (by decide +kernel)) ggX12_open_X12_isTime
set_option maxRecDepth 20000 in
theorem ggX12_open_X12_isTable : GoodIn wsX12_open wsX12_isTable := goodIn_r _ [24, 25, 35, 36, 37, 38, 39, 40, 41, 42, 43, 44, 45, 46, 47, 48, 49, 50, 51, 52, 53, 54, 55, 56, 57, 58, 59, 60, 61, 62, 63, 64, 65, 66, 67, 68, 69, 70, 71, 72, 73, 74, 75, 76, 77, 78, 79, 80, 81, 82, 83, 84, 85, 86, 87, 88, 89, 90, 91] (by decide +kernel) (by decide +kernel)
set_option maxRecDepth 20000 in
theorem gX12_open_X12_isTable : GoodIn wsX12_open (wsV RX12 153 RX12 yX12_isTable wsX12_isTable) := goodIn_app (goodIn_of _ (by decide +kernel)) ggX12_open_X12_isTable
set_option maxRecDepth 20000 in
theorem ggX12_open_X12_fails : GoodIn wsX12_open wsX12_fails := goodIn_r _ [29, 30, 35, 36, 37, 38, 39, 40, 41, 42, 43, 44, 45, 46, 47, 48, 49, 50, 51, 52, 53, 54, 55, 56, 57, 58, 59, 60, 61, 62, 63, 64, 65, 66, 67, 68, 69, 70, 71, 72, 73, 74, 75, 76, 77, 78, 79, 80, 81, 82, 83, 84, 85, 86, 87, 88, 89, 90, 91] (by decide +kernel) (by decide +kernel)
set_option maxRecDepth 20000 in
theorem gX12_open_X12_fails : GoodIn wsX12_open (wsV RX12 136 RX12 yX12_fails wsX12_fails) := goodIn_app (goodIn_of _ (by decide +kernel)) ggX12_open_X12_fails
set_option maxRecDepth 20000 in
theorem ggX12_open_X12_timeOf : GoodIn wsX12_open wsX12_timeOf := goodIn_r _ [34, 20, 35, 36, 37, 38, 39, 40, 41, 42, 43, 44, 45, 46, 47, 48, 49, 50, 51, 52, 53, 54, 55, 56, 57, 58, 59, 60, 61, 62, 63, 64, 65, 66, 67, 68, 69, 70, 71, 72, 73, 74, 75, 76, 77, 78, 79, 80, 81, 82, 83, 84, 85, 86, 87, 88, 89, 90, 91] (by decide +kernel) (by decide +kernel)
set_option maxRecDepth 20000 in
theorem gX12_open_X12_timeOf : GoodIn wsX12_open (wsV RX12 220 RX12 yX12_timeOf wsX12_timeOf) := goodIn_app (goodIn_of _ (by decide +kernel)) ggX12_open_X12_timeOf
theorem dX12_open_0 : decode cX12_open 0 = .ok (.iconst 0, 1) := by decide +kernel
theorem dX12_open_1 : decode cX12_open 1 = .ok (.istore 4, 2) := by decide +kernel
theorem dX12_open_3 : decode cX12_open 3 = .ok (.iload 4, 2) := by decide +kernel
theorem dX12_open_5 : decode cX12_open 5 = .ok (.bipush 10, 2) := by decide +kernel
theorem dX12_open_7 : decode cX12_open 7 = .ok (.if_icmp .ge 19, 3) := by decide +kernel
theorem dX12_open_10 : decode cX12_open 10 = .ok (.aload_n 0, 1) := by decide +kernel
theorem dX12_open_11 : decode cX12_open 11 = .ok (.getfield 73, 3) := by decide +kernel
theorem dX12_open_14 : decode cX12_open 14 = .ok (.iload 4, 2) := by decide +kernel
theorem dX12_open_16 : decode cX12_open 16 = .ok (.baload, 1) := by decide +kernel
theorem dX12_open_17 : decode cX12_open 17 = .ok (.ifCond .eq 9, 3) := by decide +kernel
theorem dX12_open_20 : decode cX12_open 20 = .ok (.iinc 4 1, 3) := by decide +kernel
theorem dX12_open_23 : decode cX12_open 23 = .ok (.goto (-20), 3) := by decide +kernel
theorem dX12_open_26 : decode cX12_open 26 = .ok (.aload_n 0, 1) := by decide +kernel
theorem dX12_open_27 : decode cX12_open 27 = .ok (.aload_n 0, 1) := by decide +kernel
theorem dX12_open_28 : decode cX12_open 28 = .ok (.iload_n 2, 1) := by decide +kernel
theorem dX12_open_29 : decode cX12_open 29 = .ok (.invokevirtual 207, 3) := by decide +kernel
theorem dX12_open_32 : decode cX12_open 32 = .ok (.ifCond .eq 11, 3) := by decide +kernel
theorem dX12_open_35 : decode cX12_open 35 = .ok (.aload_n 0, 1) := by decide +kernel
theorem dX12_open_36 : decode cX12_open 36 = .ok (.iload_n 3, 1) := by decide +kernel
theorem dX12_open_37 : decode cX12_open 37 = .ok (.invokevirtual 217, 3) := by decide +kernel
theorem dX12_open_40 : decode cX12_open 40 = .ok (.ifCond .ne 7, 3) := by decide +kernel
theorem dX12_open_43 : decode cX12_open 43 = .ok (.iconst 1, 1) := by decide +kernel
theorem dX12_open_44 : decode cX12_open 44 = .ok (.goto 27, 3) := by decide +kernel
theorem dX12_open_47 : decode cX12_open 47 = .ok (.aload_n 0, 1) := by decide +kernel
theorem dX12_open_48 : decode cX12_open 48 = .ok (.iload_n 1, 1) := by decide +kernel
theorem dX12_open_49 : decode cX12_open 49 = .ok (.invokevirtual 153, 3) := by decide +kernel
theorem dX12_open_52 : decode cX12_open 52 = .ok (.ifCond .ne 7, 3) := by decide +kernel
theorem dX12_open_55 : decode cX12_open 55 = .ok (.iconst 2, 1) := by decide +kernel
theorem dX12_open_56 : decode cX12_open 56 = .ok (.goto 15, 3) := by decide +kernel
theorem dX12_open_59 : decode cX12_open 59 = .ok (.iload 4, 2) := by decide +kernel
theorem dX12_open_61 : decode cX12_open 61 = .ok (.bipush 10, 2) := by decide +kernel
theorem dX12_open_63 : decode cX12_open 63 = .ok (.if_icmp .ne 7, 3) := by decide +kernel
theorem dX12_open_66 : decode cX12_open 66 = .ok (.iconst 3, 1) := by decide +kernel
theorem dX12_open_67 : decode cX12_open 67 = .ok (.goto 4, 3) := by decide +kernel
theorem dX12_open_70 : decode cX12_open 70 = .ok (.iconst 0, 1) := by decide +kernel
theorem dX12_open_71 : decode cX12_open 71 = .ok (.invokevirtual 136, 3) := by decide +kernel
theorem dX12_open_74 : decode cX12_open 74 = .ok (.ifCond .eq 5, 3) := by decide +kernel
theorem dX12_open_77 : decode cX12_open 77 = .ok (.iconst 0, 1) := by decide +kernel
theorem dX12_open_78 : decode cX12_open 78 = .ok (.ireturn, 1) := by decide +kernel
theorem dX12_open_79 : decode cX12_open 79 = .ok (.aload_n 0, 1) := by decide +kernel
theorem dX12_open_80 : decode cX12_open 80 = .ok (.getfield 73, 3) := by decide +kernel
theorem dX12_open_83 : decode cX12_open 83 = .ok (.iload 4, 2) := by decide +kernel
theorem dX12_open_85 : decode cX12_open 85 = .ok (.iconst 1, 1) := by decide +kernel
theorem dX12_open_86 : decode cX12_open 86 = .ok (.bastore, 1) := by decide +kernel
theorem dX12_open_87 : decode cX12_open 87 = .ok (.aload_n 0, 1) := by decide +kernel
theorem dX12_open_88 : decode cX12_open 88 = .ok (.getfield 76, 3) := by decide +kernel
theorem dX12_open_91 : decode cX12_open 91 = .ok (.iload 4, 2) := by decide +kernel
theorem dX12_open_93 : decode cX12_open 93 = .ok (.iconst 0, 1) := by decide +kernel
theorem dX12_open_94 : decode cX12_open 94 = .ok (.bastore, 1) := by decide +kernel
theorem dX12_open_95 : decode cX12_open 95 = .ok (.aload_n 0, 1) := by decide +kernel
theorem dX12_open_96 : decode cX12_open 96 = .ok (.getfield 79, 3) := by decide +kernel
theorem dX12_open_99 : decode cX12_open 99 = .ok (.iload 4, 2) := by decide +kernel
theorem dX12_open_101 : decode cX12_open 101 = .ok (.iload_n 1, 1) := by decide +kernel
theorem dX12_open_102 : decode cX12_open 102 = .ok (.iastore, 1) := by decide +kernel
theorem dX12_open_103 : decode cX12_open 103 = .ok (.aload_n 0, 1) := by decide +kernel
theorem dX12_open_104 : decode cX12_open 104 = .ok (.getfield 82, 3) := by decide +kernel
theorem dX12_open_107 : decode cX12_open 107 = .ok (.iload 4, 2) := by decide +kernel
theorem dX12_open_109 : decode cX12_open 109 = .ok (.iload_n 2, 1) := by decide +kernel
theorem dX12_open_110 : decode cX12_open 110 = .ok (.iastore, 1) := by decide +kernel
theorem dX12_open_111 : decode cX12_open 111 = .ok (.aload_n 0, 1) := by decide +kernel
theorem dX12_open_112 : decode cX12_open 112 = .ok (.getfield 85, 3) := by decide +kernel
theorem dX12_open_115 : decode cX12_open 115 = .ok (.iload 4, 2) := by decide +kernel
theorem dX12_open_117 : decode cX12_open 117 = .ok (.aload_n 0, 1) := by decide +kernel
theorem dX12_open_118 : decode cX12_open 118 = .ok (.iload_n 3, 1) := by decide +kernel
theorem dX12_open_119 : decode cX12_open 119 = .ok (.invokevirtual 220, 3) := by decide +kernel
theorem dX12_open_122 : decode cX12_open 122 = .ok (.iastore, 1) := by decide +kernel
theorem dX12_open_123 : decode cX12_open 123 = .ok (.aload_n 0, 1) := by decide +kernel
theorem dX12_open_124 : decode cX12_open 124 = .ok (.getfield 88, 3) := by decide +kernel
theorem dX12_open_127 : decode cX12_open 127 = .ok (.iload 4, 2) := by decide +kernel
theorem dX12_open_129 : decode cX12_open 129 = .ok (.iconst (-1), 1) := by decide +kernel
theorem dX12_open_130 : decode cX12_open 130 = .ok (.iastore, 1) := by decide +kernel
theorem dX12_open_131 : decode cX12_open 131 = .ok (.aload_n 0, 1) := by decide +kernel
theorem dX12_open_132 : decode cX12_open 132 = .ok (.getfield 91, 3) := by decide +kernel
theorem dX12_open_135 : decode cX12_open 135 = .ok (.iload 4, 2) := by decide +kernel
theorem dX12_open_137 : decode cX12_open 137 = .ok (.iconst 0, 1) := by decide +kernel
theorem dX12_open_138 : decode cX12_open 138 = .ok (.iastore, 1) := by decide +kernel
theorem dX12_open_139 : decode cX12_open 139 = .ok (.iconst 0, 1) := by decide +kernel
theorem dX12_open_140 : decode cX12_open 140 = .ok (.istore 5, 2) := by decide +kernel
theorem dX12_open_142 : decode cX12_open 142 = .ok (.iload 5, 2) := by decide +kernel
theorem dX12_open_144 : decode cX12_open 144 = .ok (.iconst 4, 1) := by decide +kernel
theorem dX12_open_145 : decode cX12_open 145 = .ok (.if_icmp .ge 28, 3) := by decide +kernel
theorem dX12_open_148 : decode cX12_open 148 = .ok (.aload_n 0, 1) := by decide +kernel
theorem dX12_open_149 : decode cX12_open 149 = .ok (.getfield 94, 3) := by decide +kernel
theorem dX12_open_152 : decode cX12_open 152 = .ok (.iconst 4, 1) := by decide +kernel
theorem dX12_open_153 : decode cX12_open 153 = .ok (.iload 4, 2) := by decide +kernel
theorem dX12_open_155 : decode cX12_open 155 = .ok (.imul, 1) := by decide +kernel
theorem dX12_open_156 : decode cX12_open 156 = .ok (.iload 5, 2) := by decide +kernel
theorem dX12_open_158 : decode cX12_open 158 = .ok (.iadd, 1) := by decide +kernel
theorem dX12_open_159 : decode cX12_open 159 = .ok (.aload_n 0, 1) := by decide +kernel
theorem dX12_open_160 : decode cX12_open 160 = .ok (.getfield 17, 3) := by decide +kernel
theorem dX12_open_163 : decode cX12_open 163 = .ok (.iload 5, 2) := by decide +kernel
theorem dX12_open_165 : decode cX12_open 165 = .ok (.iaload, 1) := by decide +kernel
theorem dX12_open_166 : decode cX12_open 166 = .ok (.iastore, 1) := by decide +kernel
theorem dX12_open_167 : decode cX12_open 167 = .ok (.iinc 5 1, 3) := by decide +kernel
theorem dX12_open_170 : decode cX12_open 170 = .ok (.goto (-28), 3) := by decide +kernel
theorem dX12_open_173 : decode cX12_open 173 = .ok (.iload 4, 2) := by decide +kernel
theorem dX12_open_175 : decode cX12_open 175 = .ok (.ireturn, 1) := by decide +kernel
theorem dX12_wrongCursor_0 : decode cX12_wrongCursor 0 = .ok (.iload_n 1, 1) := by decide +kernel
theorem dX12_wrongCursor_1 : decode cX12_wrongCursor 1 = .ok (.ifCond .lt 9, 3) := by decide +kernel
theorem dX12_wrongCursor_4 : decode cX12_wrongCursor 4 = .ok (.iload_n 1, 1) := by decide +kernel
theorem dX12_wrongCursor_5 : decode cX12_wrongCursor 5 = .ok (.bipush 10, 2) := by decide +kernel
theorem dX12_wrongCursor_7 : decode cX12_wrongCursor 7 = .ok (.if_icmp .lt 7, 3) := by decide +kernel
theorem dX12_wrongCursor_10 : decode cX12_wrongCursor 10 = .ok (.iconst 1, 1) := by decide +kernel
theorem dX12_wrongCursor_11 : decode cX12_wrongCursor 11 = .ok (.goto 17, 3) := by decide +kernel
theorem dX12_wrongCursor_14 : decode cX12_wrongCursor 14 = .ok (.aload_n 0, 1) := by decide +kernel
theorem dX12_wrongCursor_15 : decode cX12_wrongCursor 15 = .ok (.getfield 73, 3) := by decide +kernel
theorem dX12_wrongCursor_18 : decode cX12_wrongCursor 18 = .ok (.iload_n 1, 1) := by decide +kernel
theorem dX12_wrongCursor_19 : decode cX12_wrongCursor 19 = .ok (.baload, 1) := by decide +kernel
theorem dX12_wrongCursor_20 : decode cX12_wrongCursor 20 = .ok (.ifCond .ne 7, 3) := by decide +kernel
theorem dX12_wrongCursor_23 : decode cX12_wrongCursor 23 = .ok (.iconst 2, 1) := by decide +kernel
theorem dX12_wrongCursor_24 : decode cX12_wrongCursor 24 = .ok (.goto 4, 3) := by decide +kernel
theorem dX12_wrongCursor_27 : decode cX12_wrongCursor 27 = .ok (.iconst 0, 1) := by decide +kernel
theorem dX12_wrongCursor_28 : decode cX12_wrongCursor 28 = .ok (.ireturn, 1) := by decide +kernel
set_option maxRecDepth 20000 in
theorem ggX12_next_X12_wrongCursor : GoodIn wsX12_next wsX12_wrongCursor := goodIn_r _ [16, 17, 47, 48, 49, 50, 51, 52, 53, 54, 55, 56, 57, 58, 59, 60, 61, 62, 63, 64, 65, 66, 67, 68, 69, 70, 71, 72, 73, 74, 75, 76, 77, 78, 79, 80, 81, 82, 83, 84, 85, 86, 87, 88, 89, 90, 91, 92, 93, 94, 95, 96, 97, 98, 99, 100, 101, 102, 103] (by decide +kernel) (by decide +kernel)
set_option maxRecDepth 20000 in
theorem gX12_next_X12_wrongCursor : GoodIn wsX12_next (wsV RX12 223 RX12 yX12_wrongCursor wsX12_wrongCursor) := goodIn_app (goodIn_of _ (by decide +kernel)) ggX12_next_X12_wrongCursor
set_option maxRecDepth 20000 in
theorem ggX12_next_X12_fails : GoodIn wsX12_next wsX12_fails := goodIn_r _ [21, 22, 47, 48, 49, 50, 51, 52, 53, 54, 55, 56, 57, 58, 59, 60, 61, 62, 63, 64, 65, 66, 67, 68, 69, 70, 71, 72, 73, 74, 75, 76, 77, 78, 79, 80, 81, 82, 83, 84, 85, 86, 87, 88, 89, 90, 91, 92, 93, 94, 95, 96, 97, 98, 99, 100, 101, 102, 103] (by decide +kernel) (by decide +kernel)
set_option maxRecDepth 20000 in
theorem gX12_next_X12_fails : GoodIn wsX12_next (wsV RX12 136 RX12 yX12_fails wsX12_fails) := goodIn_app (goodIn_of _ (by decide +kernel)) ggX12_next_X12_fails
theorem dX12_next_0 : decode cX12_next 0 = .ok (.aload_n 0, 1) := by decide +kernel
theorem dX12_next_1 : decode cX12_next 1 = .ok (.aload_n 0, 1) := by decide +kernel
theorem dX12_next_2 : decode cX12_next 2 = .ok (.iload_n 1, 1) := by decide +kernel
theorem dX12_next_3 : decode cX12_next 3 = .ok (.invokevirtual 223, 3) := by decide +kernel
theorem dX12_next_6 : decode cX12_next 6 = .ok (.invokevirtual 136, 3) := by decide +kernel
theorem dX12_next_9 : decode cX12_next 9 = .ok (.ifCond .eq 5, 3) := by decide +kernel
theorem dX12_next_12 : decode cX12_next 12 = .ok (.iconst 0, 1) := by decide +kernel
theorem dX12_next_13 : decode cX12_next 13 = .ok (.ireturn, 1) := by decide +kernel
theorem dX12_next_14 : decode cX12_next 14 = .ok (.aload_n 0, 1) := by decide +kernel
theorem dX12_next_15 : decode cX12_next 15 = .ok (.iconst 0, 1) := by decide +kernel
theorem dX12_next_16 : decode cX12_next 16 = .ok (.putfield 168, 3) := by decide +kernel
theorem dX12_next_19 : decode cX12_next 19 = .ok (.aload_n 0, 1) := by decide +kernel
theorem dX12_next_20 : decode cX12_next 20 = .ok (.getfield 76, 3) := by decide +kernel
theorem dX12_next_23 : decode cX12_next 23 = .ok (.iload_n 1, 1) := by decide +kernel
theorem dX12_next_24 : decode cX12_next 24 = .ok (.baload, 1) := by decide +kernel
theorem dX12_next_25 : decode cX12_next 25 = .ok (.ifCond .eq 5, 3) := by decide +kernel
theorem dX12_next_28 : decode cX12_next 28 = .ok (.iconst (-1), 1) := by decide +kernel
theorem dX12_next_29 : decode cX12_next 29 = .ok (.ireturn, 1) := by decide +kernel
theorem dX12_next_30 : decode cX12_next 30 = .ok (.aload_n 0, 1) := by decide +kernel
theorem dX12_next_31 : decode cX12_next 31 = .ok (.getfield 79, 3) := by decide +kernel
theorem dX12_next_34 : decode cX12_next 34 = .ok (.iload_n 1, 1) := by decide +kernel
theorem dX12_next_35 : decode cX12_next 35 = .ok (.iaload, 1) := by decide +kernel
theorem dX12_next_36 : decode cX12_next 36 = .ok (.istore_n 2, 1) := by decide +kernel
theorem dX12_next_37 : decode cX12_next 37 = .ok (.aload_n 0, 1) := by decide +kernel
theorem dX12_next_38 : decode cX12_next 38 = .ok (.getfield 88, 3) := by decide +kernel
theorem dX12_next_41 : decode cX12_next 41 = .ok (.iload_n 1, 1) := by decide +kernel
theorem dX12_next_42 : decode cX12_next 42 = .ok (.iaload, 1) := by decide +kernel
theorem dX12_next_43 : decode cX12_next 43 = .ok (.ifCond .ge 12, 3) := by decide +kernel
theorem dX12_next_46 : decode cX12_next 46 = .ok (.aload_n 0, 1) := by decide +kernel
theorem dX12_next_47 : decode cX12_next 47 = .ok (.getfield 30, 3) := by decide +kernel
theorem dX12_next_50 : decode cX12_next 50 = .ok (.iload_n 2, 1) := by decide +kernel
theorem dX12_next_51 : decode cX12_next 51 = .ok (.iaload, 1) := by decide +kernel
theorem dX12_next_52 : decode cX12_next 52 = .ok (.goto 14, 3) := by decide +kernel
theorem dX12_next_55 : decode cX12_next 55 = .ok (.aload_n 0, 1) := by decide +kernel
theorem dX12_next_56 : decode cX12_next 56 = .ok (.getfield 61, 3) := by decide +kernel
theorem dX12_next_59 : decode cX12_next 59 = .ok (.aload_n 0, 1) := by decide +kernel
theorem dX12_next_60 : decode cX12_next 60 = .ok (.getfield 88, 3) := by decide +kernel
theorem dX12_next_63 : decode cX12_next 63 = .ok (.iload_n 1, 1) := by decide +kernel
theorem dX12_next_64 : decode cX12_next 64 = .ok (.iaload, 1) := by decide +kernel
theorem dX12_next_65 : decode cX12_next 65 = .ok (.iaload, 1) := by decide +kernel
theorem dX12_next_66 : decode cX12_next 66 = .ok (.istore_n 3, 1) := by decide +kernel
theorem dX12_next_67 : decode cX12_next 67 = .ok (.aload_n 0, 1) := by decide +kernel
theorem dX12_next_68 : decode cX12_next 68 = .ok (.iload_n 2, 1) := by decide +kernel
theorem dX12_next_69 : decode cX12_next 69 = .ok (.iload_n 3, 1) := by decide +kernel
theorem dX12_next_70 : decode cX12_next 70 = .ok (.aload_n 0, 1) := by decide +kernel
theorem dX12_next_71 : decode cX12_next 71 = .ok (.getfield 82, 3) := by decide +kernel
theorem dX12_next_74 : decode cX12_next 74 = .ok (.iload_n 1, 1) := by decide +kernel
theorem dX12_next_75 : decode cX12_next 75 = .ok (.iaload, 1) := by decide +kernel
theorem dX12_next_76 : decode cX12_next 76 = .ok (.aload_n 0, 1) := by decide +kernel
theorem dX12_next_77 : decode cX12_next 77 = .ok (.getfield 85, 3) := by decide +kernel
theorem dX12_next_80 : decode cX12_next 80 = .ok (.iload_n 1, 1) := by decide +kernel
theorem dX12_next_81 : decode cX12_next 81 = .ok (.iaload, 1) := by decide +kernel
theorem dX12_next_82 : decode cX12_next 82 = .ok (.aload_n 0, 1) := by decide +kernel
theorem dX12_next_83 : decode cX12_next 83 = .ok (.getfield 94, 3) := by decide +kernel
theorem dX12_next_86 : decode cX12_next 86 = .ok (.iconst 4, 1) := by decide +kernel
theorem dX12_next_87 : decode cX12_next 87 = .ok (.iload_n 1, 1) := by decide +kernel
theorem dX12_next_88 : decode cX12_next 88 = .ok (.imul, 1) := by decide +kernel
theorem dX12_next_89 : decode cX12_next 89 = .ok (.invokevirtual 210, 3) := by decide +kernel
theorem dX12_next_92 : decode cX12_next 92 = .ok (.istore 4, 2) := by decide +kernel
theorem dX12_next_94 : decode cX12_next 94 = .ok (.iload 4, 2) := by decide +kernel
theorem dX12_next_96 : decode cX12_next 96 = .ok (.ifCond .ge 12, 3) := by decide +kernel
theorem dX12_next_99 : decode cX12_next 99 = .ok (.aload_n 0, 1) := by decide +kernel
theorem dX12_next_100 : decode cX12_next 100 = .ok (.getfield 76, 3) := by decide +kernel
theorem dX12_next_103 : decode cX12_next 103 = .ok (.iload_n 1, 1) := by decide +kernel
theorem dX12_next_104 : decode cX12_next 104 = .ok (.iconst 1, 1) := by decide +kernel
theorem dX12_next_105 : decode cX12_next 105 = .ok (.bastore, 1) := by decide +kernel
theorem dX12_next_106 : decode cX12_next 106 = .ok (.iconst (-1), 1) := by decide +kernel
theorem dX12_next_107 : decode cX12_next 107 = .ok (.ireturn, 1) := by decide +kernel
theorem dX12_next_108 : decode cX12_next 108 = .ok (.aload_n 0, 1) := by decide +kernel
theorem dX12_next_109 : decode cX12_next 109 = .ok (.getfield 88, 3) := by decide +kernel
theorem dX12_next_112 : decode cX12_next 112 = .ok (.iload_n 1, 1) := by decide +kernel
theorem dX12_next_113 : decode cX12_next 113 = .ok (.iload 4, 2) := by decide +kernel
theorem dX12_next_115 : decode cX12_next 115 = .ok (.iastore, 1) := by decide +kernel
theorem dX12_next_116 : decode cX12_next 116 = .ok (.aload_n 0, 1) := by decide +kernel
theorem dX12_next_117 : decode cX12_next 117 = .ok (.getfield 91, 3) := by decide +kernel
theorem dX12_next_120 : decode cX12_next 120 = .ok (.iload_n 1, 1) := by decide +kernel
theorem dX12_next_121 : decode cX12_next 121 = .ok (.dup2, 1) := by decide +kernel
theorem dX12_next_122 : decode cX12_next 122 = .ok (.iaload, 1) := by decide +kernel
theorem dX12_next_123 : decode cX12_next 123 = .ok (.iconst 1, 1) := by decide +kernel
theorem dX12_next_124 : decode cX12_next 124 = .ok (.iadd, 1) := by decide +kernel
theorem dX12_next_125 : decode cX12_next 125 = .ok (.iastore, 1) := by decide +kernel
theorem dX12_next_126 : decode cX12_next 126 = .ok (.aload_n 0, 1) := by decide +kernel
theorem dX12_next_127 : decode cX12_next 127 = .ok (.getfield 49, 3) := by decide +kernel
theorem dX12_next_130 : decode cX12_next 130 = .ok (.iload 4, 2) := by decide +kernel
theorem dX12_next_132 : decode cX12_next 132 = .ok (.iaload, 1) := by decide +kernel
theorem dX12_next_133 : decode cX12_next 133 = .ok (.ireturn, 1) := by decide +kernel
set_option maxRecDepth 20000 in
theorem ggX12_close_X12_wrongCursor : GoodIn wsX12_close wsX12_wrongCursor := goodIn_r _ [7, 1, 13, 14, 15, 16, 17, 18, 19, 20, 21, 22, 23, 24, 25, 26, 27, 28, 29, 30, 31, 32, 33, 34, 35, 36, 37, 38, 39, 40, 41, 42, 43, 44, 45, 46, 47, 48, 49, 50, 51, 52, 53, 54, 55, 56, 57, 58, 59, 60, 61, 62, 63, 64, 65, 66, 67, 68, 69] (by decide +kernel) (by decide +kernel)
set_option maxRecDepth 20000 in
theorem gX12_close_X12_wrongCursor : GoodIn wsX12_close (wsV RX12 223 RX12 yX12_wrongCursor wsX12_wrongCursor) := goodIn_app (goodIn_of _ (by decide +kernel)) ggX12_close_X12_wrongCursor
set_option maxRecDepth 20000 in
theorem ggX12_close_X12_fails : GoodIn wsX12_close wsX12_fails := goodIn_r _ [11, 12, 13, 14, 15, 16, 17, 18, 19, 20, 21, 22, 23, 24, 25, 26, 27, 28, 29, 30, 31, 32, 33, 34, 35, 36, 37, 38, 39, 40, 41, 42, 43, 44, 45, 46, 47, 48, 49, 50, 51, 52, 53, 54, 55, 56, 57, 58, 59, 60, 61, 62, 63, 64, 65, 66, 67, 68, 69] (by decide +kernel) (by decide +kernel)
set_option maxRecDepth 20000 in
theorem gX12_close_X12_fails : GoodIn wsX12_close (wsV RX12 136 RX12 yX12_fails wsX12_fails) := goodIn_app (goodIn_of _ (by decide +kernel)) ggX12_close_X12_fails
theorem dX12_close_0 : decode cX12_close 0 = .ok (.aload_n 0, 1) := by decide +kernel
theorem dX12_close_1 : decode cX12_close 1 = .ok (.aload_n 0, 1) := by decide +kernel
theorem dX12_close_2 : decode cX12_close 2 = .ok (.iload_n 1, 1) := by decide +kernel
theorem dX12_close_3 : decode cX12_close 3 = .ok (.invokevirtual 223, 3) := by decide +kernel
theorem dX12_close_6 : decode cX12_close 6 = .ok (.invokevirtual 136, 3) := by decide +kernel
theorem dX12_close_9 : decode cX12_close 9 = .ok (.ifCond .eq 5, 3) := by decide +kernel
theorem dX12_close_12 : decode cX12_close 12 = .ok (.iconst 0, 1) := by decide +kernel
theorem dX12_close_13 : decode cX12_close 13 = .ok (.ireturn, 1) := by decide +kernel
theorem dX12_close_14 : decode cX12_close 14 = .ok (.aload_n 0, 1) := by decide +kernel
theorem dX12_close_15 : decode cX12_close 15 = .ok (.getfield 73, 3) := by decide +kernel
theorem dX12_close_18 : decode cX12_close 18 = .ok (.iload_n 1, 1) := by decide +kernel
theorem dX12_close_19 : decode cX12_close 19 = .ok (.iconst 0, 1) := by decide +kernel
theorem dX12_close_20 : decode cX12_close 20 = .ok (.bastore, 1) := by decide +kernel
theorem dX12_close_21 : decode cX12_close 21 = .ok (.aload_n 0, 1) := by decide +kernel
theorem dX12_close_22 : decode cX12_close 22 = .ok (.getfield 91, 3) := by decide +kernel
theorem dX12_close_25 : decode cX12_close 25 = .ok (.iload_n 1, 1) := by decide +kernel
theorem dX12_close_26 : decode cX12_close 26 = .ok (.iaload, 1) := by decide +kernel
theorem dX12_close_27 : decode cX12_close 27 = .ok (.ireturn, 1) := by decide +kernel
theorem dX12_byNumber_0 : decode cX12_byNumber 0 = .ok (.iconst 0, 1) := by decide +kernel
theorem dX12_byNumber_1 : decode cX12_byNumber 1 = .ok (.istore_n 2, 1) := by decide +kernel
theorem dX12_byNumber_2 : decode cX12_byNumber 2 = .ok (.iload_n 2, 1) := by decide +kernel
theorem dX12_byNumber_3 : decode cX12_byNumber 3 = .ok (.sipush 3000, 3) := by decide +kernel
theorem dX12_byNumber_6 : decode cX12_byNumber 6 = .ok (.if_icmp .ge 30, 3) := by decide +kernel
theorem dX12_byNumber_9 : decode cX12_byNumber 9 = .ok (.aload_n 0, 1) := by decide +kernel
theorem dX12_byNumber_10 : decode cX12_byNumber 10 = .ok (.getfield 39, 3) := by decide +kernel
theorem dX12_byNumber_13 : decode cX12_byNumber 13 = .ok (.iload_n 2, 1) := by decide +kernel
theorem dX12_byNumber_14 : decode cX12_byNumber 14 = .ok (.baload, 1) := by decide +kernel
theorem dX12_byNumber_15 : decode cX12_byNumber 15 = .ok (.ifCond .eq 15, 3) := by decide +kernel
theorem dX12_byNumber_18 : decode cX12_byNumber 18 = .ok (.aload_n 0, 1) := by decide +kernel
theorem dX12_byNumber_19 : decode cX12_byNumber 19 = .ok (.getfield 49, 3) := by decide +kernel
theorem dX12_byNumber_22 : decode cX12_byNumber 22 = .ok (.iload_n 2, 1) := by decide +kernel
theorem dX12_byNumber_23 : decode cX12_byNumber 23 = .ok (.iaload, 1) := by decide +kernel
theorem dX12_byNumber_24 : decode cX12_byNumber 24 = .ok (.iload_n 1, 1) := by decide +kernel
theorem dX12_byNumber_25 : decode cX12_byNumber 25 = .ok (.if_icmp .ne 5, 3) := by decide +kernel
theorem dX12_byNumber_28 : decode cX12_byNumber 28 = .ok (.iload_n 2, 1) := by decide +kernel
theorem dX12_byNumber_29 : decode cX12_byNumber 29 = .ok (.ireturn, 1) := by decide +kernel
theorem dX12_byNumber_30 : decode cX12_byNumber 30 = .ok (.iinc 2 1, 3) := by decide +kernel
theorem dX12_byNumber_33 : decode cX12_byNumber 33 = .ok (.goto (-31), 3) := by decide +kernel
theorem dX12_byNumber_36 : decode cX12_byNumber 36 = .ok (.iconst (-1), 1) := by decide +kernel
theorem dX12_byNumber_37 : decode cX12_byNumber 37 = .ok (.ireturn, 1) := by decide +kernel
set_option maxRecDepth 20000 in
theorem ggX12_fact_X12_byNumber : GoodIn wsX12_fact wsX12_byNumber := goodIn_r _ [9, 10, 11, 22, 23, 24, 25, 26, 27, 28, 29, 30, 31, 32, 33, 34, 35, 36, 37, 38, 39, 40, 41, 42, 43, 44, 45, 46, 47, 48, 49, 50, 51, 52, 53, 54, 55, 56, 57, 58, 59, 60, 61, 62, 63, 64, 65, 66, 67, 68, 69, 70, 71, 72, 73, 74, 75, 76, 77, 78] (by decide +kernel) (by decide +kernel)
set_option maxRecDepth 20000 in
theorem gX12_fact_X12_byNumber : GoodIn wsX12_fact (wsV RX12 226 RX12 yX12_byNumber wsX12_byNumber) := goodIn_app (goodIn_of _ (by decide +kernel)) ggX12_fact_X12_byNumber
set_option maxRecDepth 20000 in
theorem ggX12_fact_X12_fails : GoodIn wsX12_fact wsX12_fails := goodIn_r _ [15, 16, 22, 23, 24, 25, 26, 27, 28, 29, 30, 31, 32, 33, 34, 35, 36, 37, 38, 39, 40, 41, 42, 43, 44, 45, 46, 47, 48, 49, 50, 51, 52, 53, 54, 55, 56, 57, 58, 59, 60, 61, 62, 63, 64, 65, 66, 67, 68, 69, 70, 71, 72, 73, 74, 75, 76, 77, 78] (by decide +kernel) (by decide +kernel)
set_option maxRecDepth 20000 in
theorem gX12_fact_X12_fails : GoodIn wsX12_fact (wsV RX12 136 RX12 yX12_fails wsX12_fails) := goodIn_app (goodIn_of _ (by decide +kernel)) ggX12_fact_X12_fails
theorem dX12_fact_0 : decode cX12_fact 0 = .ok (.aload_n 0, 1) := by decide +kernel
theorem dX12_fact_1 : decode cX12_fact 1 = .ok (.iload_n 2, 1) := by decide +kernel
theorem dX12_fact_2 : decode cX12_fact 2 = .ok (.ifCond .lt 9, 3) := by decide +kernel
theorem dX12_fact_5 : decode cX12_fact 5 = .ok (.iload_n 2, 1) := by decide +kernel
theorem dX12_fact_6 : decode cX12_fact 6 = .ok (.bipush 7, 2) := by decide +kernel
theorem dX12_fact_8 : decode cX12_fact 8 = .ok (.if_icmp .le 7, 3) := by decide +kernel
theorem dX12_fact_11 : decode cX12_fact 11 = .ok (.iconst 1, 1) := by decide +kernel
theorem dX12_fact_12 : decode cX12_fact 12 = .ok (.goto 16, 3) := by decide +kernel
theorem dX12_fact_15 : decode cX12_fact 15 = .ok (.aload_n 0, 1) := by decide +kernel
theorem dX12_fact_16 : decode cX12_fact 16 = .ok (.iload_n 1, 1) := by decide +kernel
theorem dX12_fact_17 : decode cX12_fact 17 = .ok (.invokevirtual 226, 3) := by decide +kernel
theorem dX12_fact_20 : decode cX12_fact 20 = .ok (.ifCond .ge 7, 3) := by decide +kernel
theorem dX12_fact_23 : decode cX12_fact 23 = .ok (.iconst 2, 1) := by decide +kernel
theorem dX12_fact_24 : decode cX12_fact 24 = .ok (.goto 4, 3) := by decide +kernel
theorem dX12_fact_27 : decode cX12_fact 27 = .ok (.iconst 0, 1) := by decide +kernel
theorem dX12_fact_28 : decode cX12_fact 28 = .ok (.invokevirtual 136, 3) := by decide +kernel
theorem dX12_fact_31 : decode cX12_fact 31 = .ok (.ifCond .eq 5, 3) := by decide +kernel
theorem dX12_fact_34 : decode cX12_fact 34 = .ok (.iconst 0, 1) := by decide +kernel
theorem dX12_fact_35 : decode cX12_fact 35 = .ok (.ireturn, 1) := by decide +kernel
theorem dX12_fact_36 : decode cX12_fact 36 = .ok (.aload_n 0, 1) := by decide +kernel
theorem dX12_fact_37 : decode cX12_fact 37 = .ok (.iload_n 1, 1) := by decide +kernel
theorem dX12_fact_38 : decode cX12_fact 38 = .ok (.invokevirtual 226, 3) := by decide +kernel
theorem dX12_fact_41 : decode cX12_fact 41 = .ok (.istore_n 3, 1) := by decide +kernel
theorem dX12_fact_42 : decode cX12_fact 42 = .ok (.iload_n 2, 1) := by decide +kernel
theorem dX12_fact_43 : decode cX12_fact 43 = .ok (.tableswitch 56 4 7 #[29, 36, 43, 50], 29) := by decide +kernel
theorem dX12_fact_72 : decode cX12_fact 72 = .ok (.aload_n 0, 1) := by decide +kernel
theorem dX12_fact_73 : decode cX12_fact 73 = .ok (.getfield 43, 3) := by decide +kernel
theorem dX12_fact_76 : decode cX12_fact 76 = .ok (.iload_n 3, 1) := by decide +kernel
theorem dX12_fact_77 : decode cX12_fact 77 = .ok (.iaload, 1) := by decide +kernel
theorem dX12_fact_78 : decode cX12_fact 78 = .ok (.ireturn, 1) := by decide +kernel
theorem dX12_fact_79 : decode cX12_fact 79 = .ok (.aload_n 0, 1) := by decide +kernel
theorem dX12_fact_80 : decode cX12_fact 80 = .ok (.getfield 52, 3) := by decide +kernel
theorem dX12_fact_83 : decode cX12_fact 83 = .ok (.iload_n 3, 1) := by decide +kernel
theorem dX12_fact_84 : decode cX12_fact 84 = .ok (.iaload, 1) := by decide +kernel
theorem dX12_fact_85 : decode cX12_fact 85 = .ok (.ireturn, 1) := by decide +kernel
theorem dX12_fact_86 : decode cX12_fact 86 = .ok (.aload_n 0, 1) := by decide +kernel
theorem dX12_fact_87 : decode cX12_fact 87 = .ok (.getfield 55, 3) := by decide +kernel
theorem dX12_fact_90 : decode cX12_fact 90 = .ok (.iload_n 3, 1) := by decide +kernel
theorem dX12_fact_91 : decode cX12_fact 91 = .ok (.iaload, 1) := by decide +kernel
theorem dX12_fact_92 : decode cX12_fact 92 = .ok (.ireturn, 1) := by decide +kernel
theorem dX12_fact_93 : decode cX12_fact 93 = .ok (.aload_n 0, 1) := by decide +kernel
theorem dX12_fact_94 : decode cX12_fact 94 = .ok (.iload_n 3, 1) := by decide +kernel
theorem dX12_fact_95 : decode cX12_fact 95 = .ok (.invokevirtual 229, 3) := by decide +kernel
theorem dX12_fact_98 : decode cX12_fact 98 = .ok (.ireturn, 1) := by decide +kernel
theorem dX12_fact_99 : decode cX12_fact 99 = .ok (.aload_n 0, 1) := by decide +kernel
theorem dX12_fact_100 : decode cX12_fact 100 = .ok (.getfield 46, 3) := by decide +kernel
theorem dX12_fact_103 : decode cX12_fact 103 = .ok (.iconst 4, 1) := by decide +kernel
theorem dX12_fact_104 : decode cX12_fact 104 = .ok (.iload_n 3, 1) := by decide +kernel
theorem dX12_fact_105 : decode cX12_fact 105 = .ok (.imul, 1) := by decide +kernel
theorem dX12_fact_106 : decode cX12_fact 106 = .ok (.iload_n 2, 1) := by decide +kernel
theorem dX12_fact_107 : decode cX12_fact 107 = .ok (.iadd, 1) := by decide +kernel
theorem dX12_fact_108 : decode cX12_fact 108 = .ok (.iaload, 1) := by decide +kernel
theorem dX12_fact_109 : decode cX12_fact 109 = .ok (.ireturn, 1) := by decide +kernel
set_option maxRecDepth 20000 in
theorem ggX12_mark_X12_fails : GoodIn wsX12_mark wsX12_fails := goodIn_r _ [8, 9, 10, 11, 12, 13, 14, 15, 16, 17, 18, 19, 20, 21, 22, 23, 24, 25, 26, 27, 28, 29, 30, 31, 32, 33, 34, 35, 36, 37, 38, 39, 40, 41, 42, 43, 44, 45, 46, 47, 48, 49, 50, 51, 52, 53, 54, 55, 56, 57, 58, 59, 60, 61, 62, 63, 64, 65, 66] (by decide +kernel) (by decide +kernel)
set_option maxRecDepth 20000 in
theorem gX12_mark_X12_fails : GoodIn wsX12_mark (wsV RX12 136 RX12 yX12_fails wsX12_fails) := goodIn_app (goodIn_of _ (by decide +kernel)) ggX12_mark_X12_fails
theorem dX12_mark_0 : decode cX12_mark 0 = .ok (.aload_n 0, 1) := by decide +kernel
theorem dX12_mark_1 : decode cX12_mark 1 = .ok (.aload_n 0, 1) := by decide +kernel
theorem dX12_mark_2 : decode cX12_mark 2 = .ok (.getfield 193, 3) := by decide +kernel
theorem dX12_mark_5 : decode cX12_mark 5 = .ok (.bipush 8, 2) := by decide +kernel
theorem dX12_mark_7 : decode cX12_mark 7 = .ok (.if_icmp .ne 7, 3) := by decide +kernel
theorem dX12_mark_10 : decode cX12_mark 10 = .ok (.iconst 1, 1) := by decide +kernel
theorem dX12_mark_11 : decode cX12_mark 11 = .ok (.goto 4, 3) := by decide +kernel
theorem dX12_mark_14 : decode cX12_mark 14 = .ok (.iconst 0, 1) := by decide +kernel
theorem dX12_mark_15 : decode cX12_mark 15 = .ok (.invokevirtual 136, 3) := by decide +kernel
theorem dX12_mark_18 : decode cX12_mark 18 = .ok (.ifCond .eq 5, 3) := by decide +kernel
theorem dX12_mark_21 : decode cX12_mark 21 = .ok (.iconst 0, 1) := by decide +kernel
theorem dX12_mark_22 : decode cX12_mark 22 = .ok (.ireturn, 1) := by decide +kernel
theorem dX12_mark_23 : decode cX12_mark 23 = .ok (.aload_n 0, 1) := by decide +kernel
theorem dX12_mark_24 : decode cX12_mark 24 = .ok (.getfield 193, 3) := by decide +kernel
theorem dX12_mark_27 : decode cX12_mark 27 = .ok (.ifCond .ne 8, 3) := by decide +kernel
theorem dX12_mark_30 : decode cX12_mark 30 = .ok (.aload_n 0, 1) := by decide +kernel
theorem dX12_mark_31 : decode cX12_mark 31 = .ok (.iconst 0, 1) := by decide +kernel
theorem dX12_mark_32 : decode cX12_mark 32 = .ok (.putfield 196, 3) := by decide +kernel
theorem dX12_mark_35 : decode cX12_mark 35 = .ok (.aload_n 0, 1) := by decide +kernel
theorem dX12_mark_36 : decode cX12_mark 36 = .ok (.getfield 70, 3) := by decide +kernel
theorem dX12_mark_39 : decode cX12_mark 39 = .ok (.aload_n 0, 1) := by decide +kernel
theorem dX12_mark_40 : decode cX12_mark 40 = .ok (.getfield 193, 3) := by decide +kernel
theorem dX12_mark_43 : decode cX12_mark 43 = .ok (.aload_n 0, 1) := by decide +kernel
theorem dX12_mark_44 : decode cX12_mark 44 = .ok (.getfield 196, 3) := by decide +kernel
theorem dX12_mark_47 : decode cX12_mark 47 = .ok (.iastore, 1) := by decide +kernel
theorem dX12_mark_48 : decode cX12_mark 48 = .ok (.aload_n 0, 1) := by decide +kernel
theorem dX12_mark_49 : decode cX12_mark 49 = .ok (.dup, 1) := by decide +kernel
theorem dX12_mark_50 : decode cX12_mark 50 = .ok (.getfield 193, 3) := by decide +kernel
theorem dX12_mark_53 : decode cX12_mark 53 = .ok (.iconst 1, 1) := by decide +kernel
theorem dX12_mark_54 : decode cX12_mark 54 = .ok (.iadd, 1) := by decide +kernel
theorem dX12_mark_55 : decode cX12_mark 55 = .ok (.putfield 193, 3) := by decide +kernel
theorem dX12_mark_58 : decode cX12_mark 58 = .ok (.aload_n 0, 1) := by decide +kernel
theorem dX12_mark_59 : decode cX12_mark 59 = .ok (.getfield 193, 3) := by decide +kernel
theorem dX12_mark_62 : decode cX12_mark 62 = .ok (.ireturn, 1) := by decide +kernel
set_option maxRecDepth 20000 in
theorem ggX12_back_X12_fails : GoodIn wsX12_back wsX12_fails := goodIn_r _ [10, 11, 49, 50, 51, 52, 53, 54, 55, 56, 57, 58, 59, 60, 61, 62, 63, 64, 65, 66, 67, 68, 69, 70, 71, 72, 73, 74, 75, 76, 77, 78, 79, 80, 81, 82, 83, 84, 85, 86, 87, 88, 89, 90, 91, 92, 93, 94, 95, 96, 97, 98, 99, 100, 101, 102, 103, 104, 105] (by decide +kernel) (by decide +kernel)
set_option maxRecDepth 20000 in
theorem gX12_back_X12_fails : GoodIn wsX12_back (wsV RX12 136 RX12 yX12_fails wsX12_fails) := goodIn_app (goodIn_of _ (by decide +kernel)) ggX12_back_X12_fails
theorem dX12_back_0 : decode cX12_back 0 = .ok (.aload_n 0, 1) := by decide +kernel
theorem dX12_back_1 : decode cX12_back 1 = .ok (.aload_n 0, 1) := by decide +kernel
theorem dX12_back_2 : decode cX12_back 2 = .ok (.getfield 193, 3) := by decide +kernel
theorem dX12_back_5 : decode cX12_back 5 = .ok (.ifCond .ne 7, 3) := by decide +kernel
theorem dX12_back_8 : decode cX12_back 8 = .ok (.iconst 1, 1) := by decide +kernel
theorem dX12_back_9 : decode cX12_back 9 = .ok (.goto 4, 3) := by decide +kernel
theorem dX12_back_12 : decode cX12_back 12 = .ok (.iconst 0, 1) := by decide +kernel
theorem dX12_back_13 : decode cX12_back 13 = .ok (.invokevirtual 136, 3) := by decide +kernel
theorem dX12_back_16 : decode cX12_back 16 = .ok (.ifCond .eq 5, 3) := by decide +kernel
theorem dX12_back_19 : decode cX12_back 19 = .ok (.iconst 0, 1) := by decide +kernel
theorem dX12_back_20 : decode cX12_back 20 = .ok (.ireturn, 1) := by decide +kernel
theorem dX12_back_21 : decode cX12_back 21 = .ok (.aload_n 0, 1) := by decide +kernel
theorem dX12_back_22 : decode cX12_back 22 = .ok (.getfield 70, 3) := by decide +kernel
theorem dX12_back_25 : decode cX12_back 25 = .ok (.aload_n 0, 1) := by decide +kernel
theorem dX12_back_26 : decode cX12_back 26 = .ok (.getfield 193, 3) := by decide +kernel
theorem dX12_back_29 : decode cX12_back 29 = .ok (.iconst 1, 1) := by decide +kernel
theorem dX12_back_30 : decode cX12_back 30 = .ok (.isub, 1) := by decide +kernel
theorem dX12_back_31 : decode cX12_back 31 = .ok (.iaload, 1) := by decide +kernel
theorem dX12_back_32 : decode cX12_back 32 = .ok (.istore_n 2, 1) := by decide +kernel
theorem dX12_back_33 : decode cX12_back 33 = .ok (.aload_n 0, 1) := by decide +kernel
theorem dX12_back_34 : decode cX12_back 34 = .ok (.getfield 196, 3) := by decide +kernel
theorem dX12_back_37 : decode cX12_back 37 = .ok (.istore_n 3, 1) := by decide +kernel
theorem dX12_back_38 : decode cX12_back 38 = .ok (.iconst 0, 1) := by decide +kernel
theorem dX12_back_39 : decode cX12_back 39 = .ok (.istore 4, 2) := by decide +kernel
theorem dX12_back_41 : decode cX12_back 41 = .ok (.iload_n 2, 1) := by decide +kernel
theorem dX12_back_42 : decode cX12_back 42 = .ok (.istore 5, 2) := by decide +kernel
theorem dX12_back_44 : decode cX12_back 44 = .ok (.iload 5, 2) := by decide +kernel
theorem dX12_back_46 : decode cX12_back 46 = .ok (.iload_n 3, 1) := by decide +kernel
theorem dX12_back_47 : decode cX12_back 47 = .ok (.if_icmp .ge 22, 3) := by decide +kernel
theorem dX12_back_50 : decode cX12_back 50 = .ok (.aload_n 0, 1) := by decide +kernel
theorem dX12_back_51 : decode cX12_back 51 = .ok (.getfield 67, 3) := by decide +kernel
theorem dX12_back_54 : decode cX12_back 54 = .ok (.iload 5, 2) := by decide +kernel
theorem dX12_back_56 : decode cX12_back 56 = .ok (.iaload, 1) := by decide +kernel
theorem dX12_back_57 : decode cX12_back 57 = .ok (.ifCond .ge 6, 3) := by decide +kernel
theorem dX12_back_60 : decode cX12_back 60 = .ok (.iinc 4 1, 3) := by decide +kernel
theorem dX12_back_63 : decode cX12_back 63 = .ok (.iinc 5 1, 3) := by decide +kernel
theorem dX12_back_66 : decode cX12_back 66 = .ok (.goto (-22), 3) := by decide +kernel
theorem dX12_back_69 : decode cX12_back 69 = .ok (.aload_n 0, 1) := by decide +kernel
theorem dX12_back_70 : decode cX12_back 70 = .ok (.iload_n 1, 1) := by decide +kernel
theorem dX12_back_71 : decode cX12_back 71 = .ok (.ifCond .eq 20, 3) := by decide +kernel
theorem dX12_back_74 : decode cX12_back 74 = .ok (.aload_n 0, 1) := by decide +kernel
theorem dX12_back_75 : decode cX12_back 75 = .ok (.getfield 187, 3) := by decide +kernel
theorem dX12_back_78 : decode cX12_back 78 = .ok (.iload 4, 2) := by decide +kernel
theorem dX12_back_80 : decode cX12_back 80 = .ok (.iadd, 1) := by decide +kernel
theorem dX12_back_81 : decode cX12_back 81 = .ok (.sipush 3000, 3) := by decide +kernel
theorem dX12_back_84 : decode cX12_back 84 = .ok (.if_icmp .le 7, 3) := by decide +kernel
theorem dX12_back_87 : decode cX12_back 87 = .ok (.iconst 1, 1) := by decide +kernel
theorem dX12_back_88 : decode cX12_back 88 = .ok (.goto 4, 3) := by decide +kernel
theorem dX12_back_91 : decode cX12_back 91 = .ok (.iconst 0, 1) := by decide +kernel
theorem dX12_back_92 : decode cX12_back 92 = .ok (.invokevirtual 136, 3) := by decide +kernel
theorem dX12_back_95 : decode cX12_back 95 = .ok (.ifCond .eq 5, 3) := by decide +kernel
theorem dX12_back_98 : decode cX12_back 98 = .ok (.iconst 0, 1) := by decide +kernel
theorem dX12_back_99 : decode cX12_back 99 = .ok (.ireturn, 1) := by decide +kernel
theorem dX12_back_100 : decode cX12_back 100 = .ok (.aload_n 0, 1) := by decide +kernel
theorem dX12_back_101 : decode cX12_back 101 = .ok (.dup, 1) := by decide +kernel
theorem dX12_back_102 : decode cX12_back 102 = .ok (.getfield 193, 3) := by decide +kernel
theorem dX12_back_105 : decode cX12_back 105 = .ok (.iconst 1, 1) := by decide +kernel
theorem dX12_back_106 : decode cX12_back 106 = .ok (.isub, 1) := by decide +kernel
theorem dX12_back_107 : decode cX12_back 107 = .ok (.putfield 193, 3) := by decide +kernel
theorem dX12_back_110 : decode cX12_back 110 = .ok (.iload_n 1, 1) := by decide +kernel
theorem dX12_back_111 : decode cX12_back 111 = .ok (.ifCond .ne 5, 3) := by decide +kernel
theorem dX12_back_114 : decode cX12_back 114 = .ok (.iconst 0, 1) := by decide +kernel
theorem dX12_back_115 : decode cX12_back 115 = .ok (.ireturn, 1) := by decide +kernel
theorem dX12_back_116 : decode cX12_back 116 = .ok (.iload_n 3, 1) := by decide +kernel
theorem dX12_back_117 : decode cX12_back 117 = .ok (.iconst 1, 1) := by decide +kernel
theorem dX12_back_118 : decode cX12_back 118 = .ok (.isub, 1) := by decide +kernel
theorem dX12_back_119 : decode cX12_back 119 = .ok (.istore 5, 2) := by decide +kernel
theorem dX12_back_121 : decode cX12_back 121 = .ok (.iload 5, 2) := by decide +kernel
theorem dX12_back_123 : decode cX12_back 123 = .ok (.iload_n 2, 1) := by decide +kernel
theorem dX12_back_124 : decode cX12_back 124 = .ok (.if_icmp .lt 20, 3) := by decide +kernel
theorem dX12_back_127 : decode cX12_back 127 = .ok (.aload_n 0, 1) := by decide +kernel
theorem dX12_back_128 : decode cX12_back 128 = .ok (.aload_n 0, 1) := by decide +kernel
theorem dX12_back_129 : decode cX12_back 129 = .ok (.getfield 67, 3) := by decide +kernel
theorem dX12_back_132 : decode cX12_back 132 = .ok (.iload 5, 2) := by decide +kernel
theorem dX12_back_134 : decode cX12_back 134 = .ok (.iaload, 1) := by decide +kernel
theorem dX12_back_135 : decode cX12_back 135 = .ok (.invokevirtual 232, 3) := by decide +kernel
theorem dX12_back_138 : decode cX12_back 138 = .ok (.iinc 5 (-1), 3) := by decide +kernel
theorem dX12_back_141 : decode cX12_back 141 = .ok (.goto (-20), 3) := by decide +kernel
theorem dX12_back_144 : decode cX12_back 144 = .ok (.iload_n 3, 1) := by decide +kernel
theorem dX12_back_145 : decode cX12_back 145 = .ok (.iload_n 2, 1) := by decide +kernel
theorem dX12_back_146 : decode cX12_back 146 = .ok (.isub, 1) := by decide +kernel
theorem dX12_back_147 : decode cX12_back 147 = .ok (.ireturn, 1) := by decide +kernel
set_option maxRecDepth 20000 in
theorem ggX12_purge_X12_isTime : GoodIn wsX12_purge wsX12_isTime := goodIn_r _ [16, 3, 17, 27, 28, 29, 30, 31, 32, 33, 34, 35, 36, 37, 38, 39, 40, 41, 42, 43, 44, 45, 46, 47, 48, 49, 50, 51, 52, 53, 54, 55, 56, 57, 58, 59, 60, 61, 62, 63, 64, 65, 66, 67, 68, 69, 70, 71, 72, 73, 74, 75, 76, 77, 78, 79, 80, 81, 82, 83] (by decide +kernel) (by decide +kernel)
set_option maxRecDepth 20000 in
theorem gX12_purge_X12_isTime : GoodIn wsX12_purge (wsV RX12 217 RX12 yX12_isTime wsX12_isTime) := goodIn_app (goodIn_of _ (by decide +kernel)) ggX12_purge_X12_isTime
set_option maxRecDepth 20000 in
theorem ggX12_purge_X12_fails : GoodIn wsX12_purge wsX12_fails := goodIn_r _ [21, 22, 27, 28, 29, 30, 31, 32, 33, 34, 35, 36, 37, 38, 39, 40, 41, 42, 43, 44, 45, 46, 47, 48, 49, 50, 51, 52, 53, 54, 55, 56, 57, 58, 59, 60, 61, 62, 63, 64, 65, 66, 67, 68, 69, 70, 71, 72, 73, 74, 75, 76, 77, 78, 79, 80, 81, 82, 83] (by decide +kernel) (by decide +kernel)
set_option maxRecDepth 20000 in
theorem gX12_purge_X12_fails : GoodIn wsX12_purge (wsV RX12 136 RX12 yX12_fails wsX12_fails) := goodIn_app (goodIn_of _ (by decide +kernel)) ggX12_purge_X12_fails
set_option maxRecDepth 20000 in
theorem ggX12_purge_X12_timeOf : GoodIn wsX12_purge wsX12_timeOf := goodIn_r _ [26, 17, 27, 28, 29, 30, 31, 32, 33, 34, 35, 36, 37, 38, 39, 40, 41, 42, 43, 44, 45, 46, 47, 48, 49, 50, 51, 52, 53, 54, 55, 56, 57, 58, 59, 60, 61, 62, 63, 64, 65, 66, 67, 68, 69, 70, 71, 72, 73, 74, 75, 76, 77, 78, 79, 80, 81, 82, 83] (by decide +kernel) (by decide +kernel)
set_option maxRecDepth 20000 in
theorem gX12_purge_X12_timeOf : GoodIn wsX12_purge (wsV RX12 220 RX12 yX12_timeOf wsX12_timeOf) := goodIn_app (goodIn_of _ (by decide +kernel)) ggX12_purge_X12_timeOf
theorem dX12_purge_0 : decode cX12_purge 0 = .ok (.aload_n 0, 1) := by decide +kernel
theorem dX12_purge_1 : decode cX12_purge 1 = .ok (.getfield 193, 3) := by decide +kernel
theorem dX12_purge_4 : decode cX12_purge 4 = .ok (.ifCond .le 7, 3) := by decide +kernel
theorem dX12_purge_7 : decode cX12_purge 7 = .ok (.iconst 1, 1) := by decide +kernel
theorem dX12_purge_8 : decode cX12_purge 8 = .ok (.goto 4, 3) := by decide +kernel
theorem dX12_purge_11 : decode cX12_purge 11 = .ok (.iconst 0, 1) := by decide +kernel
theorem dX12_purge_12 : decode cX12_purge 12 = .ok (.istore_n 2, 1) := by decide +kernel
theorem dX12_purge_13 : decode cX12_purge 13 = .ok (.iconst 0, 1) := by decide +kernel
theorem dX12_purge_14 : decode cX12_purge 14 = .ok (.istore_n 3, 1) := by decide +kernel
theorem dX12_purge_15 : decode cX12_purge 15 = .ok (.iload_n 3, 1) := by decide +kernel
theorem dX12_purge_16 : decode cX12_purge 16 = .ok (.bipush 10, 2) := by decide +kernel
theorem dX12_purge_18 : decode cX12_purge 18 = .ok (.if_icmp .ge 20, 3) := by decide +kernel
theorem dX12_purge_21 : decode cX12_purge 21 = .ok (.aload_n 0, 1) := by decide +kernel
theorem dX12_purge_22 : decode cX12_purge 22 = .ok (.getfield 73, 3) := by decide +kernel
theorem dX12_purge_25 : decode cX12_purge 25 = .ok (.iload_n 3, 1) := by decide +kernel
theorem dX12_purge_26 : decode cX12_purge 26 = .ok (.baload, 1) := by decide +kernel
theorem dX12_purge_27 : decode cX12_purge 27 = .ok (.ifCond .eq 5, 3) := by decide +kernel
theorem dX12_purge_30 : decode cX12_purge 30 = .ok (.iconst 1, 1) := by decide +kernel
theorem dX12_purge_31 : decode cX12_purge 31 = .ok (.istore_n 2, 1) := by decide +kernel
theorem dX12_purge_32 : decode cX12_purge 32 = .ok (.iinc 3 1, 3) := by decide +kernel
theorem dX12_purge_35 : decode cX12_purge 35 = .ok (.goto (-20), 3) := by decide +kernel
theorem dX12_purge_38 : decode cX12_purge 38 = .ok (.aload_n 0, 1) := by decide +kernel
theorem dX12_purge_39 : decode cX12_purge 39 = .ok (.aload_n 0, 1) := by decide +kernel
theorem dX12_purge_40 : decode cX12_purge 40 = .ok (.iload_n 1, 1) := by decide +kernel
theorem dX12_purge_41 : decode cX12_purge 41 = .ok (.invokevirtual 217, 3) := by decide +kernel
theorem dX12_purge_44 : decode cX12_purge 44 = .ok (.ifCond .ne 7, 3) := by decide +kernel
theorem dX12_purge_47 : decode cX12_purge 47 = .ok (.iconst 1, 1) := by decide +kernel
theorem dX12_purge_48 : decode cX12_purge 48 = .ok (.goto 12, 3) := by decide +kernel
theorem dX12_purge_51 : decode cX12_purge 51 = .ok (.iload_n 2, 1) := by decide +kernel
theorem dX12_purge_52 : decode cX12_purge 52 = .ok (.ifCond .eq 7, 3) := by decide +kernel
theorem dX12_purge_55 : decode cX12_purge 55 = .ok (.iconst 2, 1) := by decide +kernel
theorem dX12_purge_56 : decode cX12_purge 56 = .ok (.goto 4, 3) := by decide +kernel
theorem dX12_purge_59 : decode cX12_purge 59 = .ok (.iconst 0, 1) := by decide +kernel
theorem dX12_purge_60 : decode cX12_purge 60 = .ok (.invokevirtual 136, 3) := by decide +kernel
theorem dX12_purge_63 : decode cX12_purge 63 = .ok (.ifCond .eq 5, 3) := by decide +kernel
theorem dX12_purge_66 : decode cX12_purge 66 = .ok (.iconst 0, 1) := by decide +kernel
theorem dX12_purge_67 : decode cX12_purge 67 = .ok (.ireturn, 1) := by decide +kernel
theorem dX12_purge_68 : decode cX12_purge 68 = .ok (.aload_n 0, 1) := by decide +kernel
theorem dX12_purge_69 : decode cX12_purge 69 = .ok (.iload_n 1, 1) := by decide +kernel
theorem dX12_purge_70 : decode cX12_purge 70 = .ok (.invokevirtual 220, 3) := by decide +kernel
theorem dX12_purge_73 : decode cX12_purge 73 = .ok (.istore_n 3, 1) := by decide +kernel
theorem dX12_purge_74 : decode cX12_purge 74 = .ok (.iload_n 3, 1) := by decide +kernel
theorem dX12_purge_75 : decode cX12_purge 75 = .ok (.aload_n 0, 1) := by decide +kernel
theorem dX12_purge_76 : decode cX12_purge 76 = .ok (.getfield 147, 3) := by decide +kernel
theorem dX12_purge_79 : decode cX12_purge 79 = .ok (.if_icmp .le 8, 3) := by decide +kernel
theorem dX12_purge_82 : decode cX12_purge 82 = .ok (.aload_n 0, 1) := by decide +kernel
theorem dX12_purge_83 : decode cX12_purge 83 = .ok (.iload_n 3, 1) := by decide +kernel
theorem dX12_purge_84 : decode cX12_purge 84 = .ok (.putfield 147, 3) := by decide +kernel
theorem dX12_purge_87 : decode cX12_purge 87 = .ok (.iconst 0, 1) := by decide +kernel
theorem dX12_purge_88 : decode cX12_purge 88 = .ok (.istore 4, 2) := by decide +kernel
theorem dX12_purge_90 : decode cX12_purge 90 = .ok (.iconst 0, 1) := by decide +kernel
theorem dX12_purge_91 : decode cX12_purge 91 = .ok (.istore 5, 2) := by decide +kernel
theorem dX12_purge_93 : decode cX12_purge 93 = .ok (.iload 5, 2) := by decide +kernel
theorem dX12_purge_95 : decode cX12_purge 95 = .ok (.sipush 3000, 3) := by decide +kernel
theorem dX12_purge_98 : decode cX12_purge 98 = .ok (.if_icmp .ge 166, 3) := by decide +kernel
theorem dX12_purge_101 : decode cX12_purge 101 = .ok (.aload_n 0, 1) := by decide +kernel
theorem dX12_purge_102 : decode cX12_purge 102 = .ok (.getfield 39, 3) := by decide +kernel
theorem dX12_purge_105 : decode cX12_purge 105 = .ok (.iload 5, 2) := by decide +kernel
theorem dX12_purge_107 : decode cX12_purge 107 = .ok (.baload, 1) := by decide +kernel
theorem dX12_purge_108 : decode cX12_purge 108 = .ok (.ifCond .eq 150, 3) := by decide +kernel
theorem dX12_purge_111 : decode cX12_purge 111 = .ok (.aload_n 0, 1) := by decide +kernel
theorem dX12_purge_112 : decode cX12_purge 112 = .ok (.getfield 55, 3) := by decide +kernel
theorem dX12_purge_115 : decode cX12_purge 115 = .ok (.iload 5, 2) := by decide +kernel
theorem dX12_purge_117 : decode cX12_purge 117 = .ok (.iaload, 1) := by decide +kernel
theorem dX12_purge_118 : decode cX12_purge 118 = .ok (.ifCond .lt 140, 3) := by decide +kernel
theorem dX12_purge_121 : decode cX12_purge 121 = .ok (.aload_n 0, 1) := by decide +kernel
theorem dX12_purge_122 : decode cX12_purge 122 = .ok (.getfield 55, 3) := by decide +kernel
theorem dX12_purge_125 : decode cX12_purge 125 = .ok (.iload 5, 2) := by decide +kernel
theorem dX12_purge_127 : decode cX12_purge 127 = .ok (.iaload, 1) := by decide +kernel
theorem dX12_purge_128 : decode cX12_purge 128 = .ok (.iload_n 3, 1) := by decide +kernel
theorem dX12_purge_129 : decode cX12_purge 129 = .ok (.if_icmp .le 6, 3) := by decide +kernel
theorem dX12_purge_132 : decode cX12_purge 132 = .ok (.goto 126, 3) := by decide +kernel
theorem dX12_purge_135 : decode cX12_purge 135 = .ok (.aload_n 0, 1) := by decide +kernel
theorem dX12_purge_136 : decode cX12_purge 136 = .ok (.getfield 58, 3) := by decide +kernel
theorem dX12_purge_139 : decode cX12_purge 139 = .ok (.iload 5, 2) := by decide +kernel
theorem dX12_purge_141 : decode cX12_purge 141 = .ok (.iaload, 1) := by decide +kernel
theorem dX12_purge_142 : decode cX12_purge 142 = .ok (.ifCond .ge 25, 3) := by decide +kernel
theorem dX12_purge_145 : decode cX12_purge 145 = .ok (.aload_n 0, 1) := by decide +kernel
theorem dX12_purge_146 : decode cX12_purge 146 = .ok (.getfield 30, 3) := by decide +kernel
theorem dX12_purge_149 : decode cX12_purge 149 = .ok (.aload_n 0, 1) := by decide +kernel
theorem dX12_purge_150 : decode cX12_purge 150 = .ok (.getfield 43, 3) := by decide +kernel
theorem dX12_purge_153 : decode cX12_purge 153 = .ok (.iload 5, 2) := by decide +kernel
theorem dX12_purge_155 : decode cX12_purge 155 = .ok (.iaload, 1) := by decide +kernel
theorem dX12_purge_156 : decode cX12_purge 156 = .ok (.aload_n 0, 1) := by decide +kernel
theorem dX12_purge_157 : decode cX12_purge 157 = .ok (.getfield 61, 3) := by decide +kernel
theorem dX12_purge_160 : decode cX12_purge 160 = .ok (.iload 5, 2) := by decide +kernel
theorem dX12_purge_162 : decode cX12_purge 162 = .ok (.iaload, 1) := by decide +kernel
theorem dX12_purge_163 : decode cX12_purge 163 = .ok (.iastore, 1) := by decide +kernel
theorem dX12_purge_164 : decode cX12_purge 164 = .ok (.goto 22, 3) := by decide +kernel
theorem dX12_purge_167 : decode cX12_purge 167 = .ok (.aload_n 0, 1) := by decide +kernel
theorem dX12_purge_168 : decode cX12_purge 168 = .ok (.getfield 61, 3) := by decide +kernel
theorem dX12_purge_171 : decode cX12_purge 171 = .ok (.aload_n 0, 1) := by decide +kernel
theorem dX12_purge_172 : decode cX12_purge 172 = .ok (.getfield 58, 3) := by decide +kernel
theorem dX12_purge_175 : decode cX12_purge 175 = .ok (.iload 5, 2) := by decide +kernel
theorem dX12_purge_177 : decode cX12_purge 177 = .ok (.iaload, 1) := by decide +kernel
theorem dX12_purge_178 : decode cX12_purge 178 = .ok (.aload_n 0, 1) := by decide +kernel
theorem dX12_purge_179 : decode cX12_purge 179 = .ok (.getfield 61, 3) := by decide +kernel
theorem dX12_purge_182 : decode cX12_purge 182 = .ok (.iload 5, 2) := by decide +kernel
theorem dX12_purge_184 : decode cX12_purge 184 = .ok (.iaload, 1) := by decide +kernel
theorem dX12_purge_185 : decode cX12_purge 185 = .ok (.iastore, 1) := by decide +kernel
theorem dX12_purge_186 : decode cX12_purge 186 = .ok (.aload_n 0, 1) := by decide +kernel
theorem dX12_purge_187 : decode cX12_purge 187 = .ok (.getfield 61, 3) := by decide +kernel
theorem dX12_purge_190 : decode cX12_purge 190 = .ok (.iload 5, 2) := by decide +kernel
theorem dX12_purge_192 : decode cX12_purge 192 = .ok (.iaload, 1) := by decide +kernel
theorem dX12_purge_193 : decode cX12_purge 193 = .ok (.ifCond .ge 25, 3) := by decide +kernel
theorem dX12_purge_196 : decode cX12_purge 196 = .ok (.aload_n 0, 1) := by decide +kernel
theorem dX12_purge_197 : decode cX12_purge 197 = .ok (.getfield 33, 3) := by decide +kernel
theorem dX12_purge_200 : decode cX12_purge 200 = .ok (.aload_n 0, 1) := by decide +kernel
theorem dX12_purge_201 : decode cX12_purge 201 = .ok (.getfield 43, 3) := by decide +kernel
theorem dX12_purge_204 : decode cX12_purge 204 = .ok (.iload 5, 2) := by decide +kernel
theorem dX12_purge_206 : decode cX12_purge 206 = .ok (.iaload, 1) := by decide +kernel
theorem dX12_purge_207 : decode cX12_purge 207 = .ok (.aload_n 0, 1) := by decide +kernel
theorem dX12_purge_208 : decode cX12_purge 208 = .ok (.getfield 58, 3) := by decide +kernel
theorem dX12_purge_211 : decode cX12_purge 211 = .ok (.iload 5, 2) := by decide +kernel
theorem dX12_purge_213 : decode cX12_purge 213 = .ok (.iaload, 1) := by decide +kernel
theorem dX12_purge_214 : decode cX12_purge 214 = .ok (.iastore, 1) := by decide +kernel
theorem dX12_purge_215 : decode cX12_purge 215 = .ok (.goto 22, 3) := by decide +kernel
theorem dX12_purge_218 : decode cX12_purge 218 = .ok (.aload_n 0, 1) := by decide +kernel
theorem dX12_purge_219 : decode cX12_purge 219 = .ok (.getfield 58, 3) := by decide +kernel
theorem dX12_purge_222 : decode cX12_purge 222 = .ok (.aload_n 0, 1) := by decide +kernel
theorem dX12_purge_223 : decode cX12_purge 223 = .ok (.getfield 61, 3) := by decide +kernel
theorem dX12_purge_226 : decode cX12_purge 226 = .ok (.iload 5, 2) := by decide +kernel
theorem dX12_purge_228 : decode cX12_purge 228 = .ok (.iaload, 1) := by decide +kernel
theorem dX12_purge_229 : decode cX12_purge 229 = .ok (.aload_n 0, 1) := by decide +kernel
theorem dX12_purge_230 : decode cX12_purge 230 = .ok (.getfield 58, 3) := by decide +kernel
theorem dX12_purge_233 : decode cX12_purge 233 = .ok (.iload 5, 2) := by decide +kernel
theorem dX12_purge_235 : decode cX12_purge 235 = .ok (.iaload, 1) := by decide +kernel
theorem dX12_purge_236 : decode cX12_purge 236 = .ok (.iastore, 1) := by decide +kernel
theorem dX12_purge_237 : decode cX12_purge 237 = .ok (.aload_n 0, 1) := by decide +kernel
theorem dX12_purge_238 : decode cX12_purge 238 = .ok (.getfield 39, 3) := by decide +kernel
theorem dX12_purge_241 : decode cX12_purge 241 = .ok (.iload 5, 2) := by decide +kernel
theorem dX12_purge_243 : decode cX12_purge 243 = .ok (.iconst 0, 1) := by decide +kernel
theorem dX12_purge_244 : decode cX12_purge 244 = .ok (.bastore, 1) := by decide +kernel
theorem dX12_purge_245 : decode cX12_purge 245 = .ok (.aload_n 0, 1) := by decide +kernel
theorem dX12_purge_246 : decode cX12_purge 246 = .ok (.dup, 1) := by decide +kernel
theorem dX12_purge_247 : decode cX12_purge 247 = .ok (.getfield 187, 3) := by decide +kernel
theorem dX12_purge_250 : decode cX12_purge 250 = .ok (.iconst 1, 1) := by decide +kernel
theorem dX12_purge_251 : decode cX12_purge 251 = .ok (.isub, 1) := by decide +kernel
theorem dX12_purge_252 : decode cX12_purge 252 = .ok (.putfield 187, 3) := by decide +kernel
theorem dX12_purge_255 : decode cX12_purge 255 = .ok (.iinc 4 1, 3) := by decide +kernel
theorem dX12_purge_258 : decode cX12_purge 258 = .ok (.iinc 5 1, 3) := by decide +kernel
theorem dX12_purge_261 : decode cX12_purge 261 = .ok (.goto (-168), 3) := by decide +kernel
theorem dX12_purge_264 : decode cX12_purge 264 = .ok (.iload 4, 2) := by decide +kernel
theorem dX12_purge_266 : decode cX12_purge 266 = .ok (.ireturn, 1) := by decide +kernel
set_option maxRecDepth 20000 in
theorem ggX12_changes_X12_isTime : GoodIn wsX12_changes wsX12_isTime := goodIn_r _ [9, 10, 11, 37, 38, 39, 40, 41, 42, 43, 44, 45, 46, 47, 48, 49, 50, 51, 52, 53, 54, 55, 56, 57, 58, 59, 60, 61, 62, 63, 64, 65, 66, 67, 68, 69, 70, 71, 72, 73, 74, 75, 76, 77, 78, 79, 80, 81, 82, 83, 84, 85, 86, 87, 88, 89, 90, 91, 92, 93] (by decide +kernel) (by decide +kernel)
set_option maxRecDepth 20000 in
theorem gX12_changes_X12_isTime : GoodIn wsX12_changes (wsV RX12 217 RX12 yX12_isTime wsX12_isTime) := goodIn_app (goodIn_of _ (by decide +kernel)) ggX12_changes_X12_isTime
set_option maxRecDepth 20000 in
theorem ggX12_changes_X12_isTable : GoodIn wsX12_changes wsX12_isTable := goodIn_r _ [15, 16, 37, 38, 39, 40, 41, 42, 43, 44, 45, 46, 47, 48, 49, 50, 51, 52, 53, 54, 55, 56, 57, 58, 59, 60, 61, 62, 63, 64, 65, 66, 67, 68, 69, 70, 71, 72, 73, 74, 75, 76, 77, 78, 79, 80, 81, 82, 83, 84, 85, 86, 87, 88, 89, 90, 91, 92, 93] (by decide +kernel) (by decide +kernel)
set_option maxRecDepth 20000 in
theorem gX12_changes_X12_isTable : GoodIn wsX12_changes (wsV RX12 153 RX12 yX12_isTable wsX12_isTable) := goodIn_app (goodIn_of _ (by decide +kernel)) ggX12_changes_X12_isTable
set_option maxRecDepth 20000 in
theorem ggX12_changes_X12_fails : GoodIn wsX12_changes wsX12_fails := goodIn_r _ [20, 21, 37, 38, 39, 40, 41, 42, 43, 44, 45, 46, 47, 48, 49, 50, 51, 52, 53, 54, 55, 56, 57, 58, 59, 60, 61, 62, 63, 64, 65, 66, 67, 68, 69, 70, 71, 72, 73, 74, 75, 76, 77, 78, 79, 80, 81, 82, 83, 84, 85, 86, 87, 88, 89, 90, 91, 92, 93] (by decide +kernel) (by decide +kernel)
set_option maxRecDepth 20000 in
theorem gX12_changes_X12_fails : GoodIn wsX12_changes (wsV RX12 136 RX12 yX12_fails wsX12_fails) := goodIn_app (goodIn_of _ (by decide +kernel)) ggX12_changes_X12_fails
set_option maxRecDepth 20000 in
theorem ggX12_changes_X12_timeOf : GoodIn wsX12_changes wsX12_timeOf := goodIn_r _ [25, 11, 37, 38, 39, 40, 41, 42, 43, 44, 45, 46, 47, 48, 49, 50, 51, 52, 53, 54, 55, 56, 57, 58, 59, 60, 61, 62, 63, 64, 65, 66, 67, 68, 69, 70, 71, 72, 73, 74, 75, 76, 77, 78, 79, 80, 81, 82, 83, 84, 85, 86, 87, 88, 89, 90, 91, 92, 93] (by decide +kernel) (by decide +kernel)
set_option maxRecDepth 20000 in
theorem gX12_changes_X12_timeOf : GoodIn wsX12_changes (wsV RX12 220 RX12 yX12_timeOf wsX12_timeOf) := goodIn_app (goodIn_of _ (by decide +kernel)) ggX12_changes_X12_timeOf
theorem dX12_changes_0 : decode cX12_changes 0 = .ok (.aload_n 0, 1) := by decide +kernel
theorem dX12_changes_1 : decode cX12_changes 1 = .ok (.aload_n 0, 1) := by decide +kernel
theorem dX12_changes_2 : decode cX12_changes 2 = .ok (.iload_n 2, 1) := by decide +kernel
theorem dX12_changes_3 : decode cX12_changes 3 = .ok (.invokevirtual 217, 3) := by decide +kernel
theorem dX12_changes_6 : decode cX12_changes 6 = .ok (.ifCond .eq 11, 3) := by decide +kernel
theorem dX12_changes_9 : decode cX12_changes 9 = .ok (.aload_n 0, 1) := by decide +kernel
theorem dX12_changes_10 : decode cX12_changes 10 = .ok (.iload_n 3, 1) := by decide +kernel
theorem dX12_changes_11 : decode cX12_changes 11 = .ok (.invokevirtual 217, 3) := by decide +kernel
theorem dX12_changes_14 : decode cX12_changes 14 = .ok (.ifCond .ne 7, 3) := by decide +kernel
theorem dX12_changes_17 : decode cX12_changes 17 = .ok (.iconst 1, 1) := by decide +kernel
theorem dX12_changes_18 : decode cX12_changes 18 = .ok (.goto 16, 3) := by decide +kernel
theorem dX12_changes_21 : decode cX12_changes 21 = .ok (.aload_n 0, 1) := by decide +kernel
theorem dX12_changes_22 : decode cX12_changes 22 = .ok (.iload_n 1, 1) := by decide +kernel
theorem dX12_changes_23 : decode cX12_changes 23 = .ok (.invokevirtual 153, 3) := by decide +kernel
theorem dX12_changes_26 : decode cX12_changes 26 = .ok (.ifCond .ne 7, 3) := by decide +kernel
theorem dX12_changes_29 : decode cX12_changes 29 = .ok (.iconst 2, 1) := by decide +kernel
theorem dX12_changes_30 : decode cX12_changes 30 = .ok (.goto 4, 3) := by decide +kernel
theorem dX12_changes_33 : decode cX12_changes 33 = .ok (.iconst 0, 1) := by decide +kernel
theorem dX12_changes_34 : decode cX12_changes 34 = .ok (.invokevirtual 136, 3) := by decide +kernel
theorem dX12_changes_37 : decode cX12_changes 37 = .ok (.ifCond .eq 5, 3) := by decide +kernel
theorem dX12_changes_40 : decode cX12_changes 40 = .ok (.iconst 0, 1) := by decide +kernel
theorem dX12_changes_41 : decode cX12_changes 41 = .ok (.ireturn, 1) := by decide +kernel
theorem dX12_changes_42 : decode cX12_changes 42 = .ok (.aload_n 0, 1) := by decide +kernel
theorem dX12_changes_43 : decode cX12_changes 43 = .ok (.iload_n 2, 1) := by decide +kernel
theorem dX12_changes_44 : decode cX12_changes 44 = .ok (.invokevirtual 220, 3) := by decide +kernel
theorem dX12_changes_47 : decode cX12_changes 47 = .ok (.istore 4, 2) := by decide +kernel
theorem dX12_changes_49 : decode cX12_changes 49 = .ok (.aload_n 0, 1) := by decide +kernel
theorem dX12_changes_50 : decode cX12_changes 50 = .ok (.iload_n 3, 1) := by decide +kernel
theorem dX12_changes_51 : decode cX12_changes 51 = .ok (.invokevirtual 220, 3) := by decide +kernel
theorem dX12_changes_54 : decode cX12_changes 54 = .ok (.istore 5, 2) := by decide +kernel
theorem dX12_changes_56 : decode cX12_changes 56 = .ok (.aload_n 0, 1) := by decide +kernel
theorem dX12_changes_57 : decode cX12_changes 57 = .ok (.iconst 0, 1) := by decide +kernel
theorem dX12_changes_58 : decode cX12_changes 58 = .ok (.putfield 235, 3) := by decide +kernel
theorem dX12_changes_61 : decode cX12_changes 61 = .ok (.aload_n 0, 1) := by decide +kernel
theorem dX12_changes_62 : decode cX12_changes 62 = .ok (.getfield 30, 3) := by decide +kernel
theorem dX12_changes_65 : decode cX12_changes 65 = .ok (.iload_n 1, 1) := by decide +kernel
theorem dX12_changes_66 : decode cX12_changes 66 = .ok (.iaload, 1) := by decide +kernel
theorem dX12_changes_67 : decode cX12_changes 67 = .ok (.istore 6, 2) := by decide +kernel
theorem dX12_changes_69 : decode cX12_changes 69 = .ok (.iload 6, 2) := by decide +kernel
theorem dX12_changes_71 : decode cX12_changes 71 = .ok (.ifCond .lt 48, 3) := by decide +kernel
theorem dX12_changes_74 : decode cX12_changes 74 = .ok (.aload_n 0, 1) := by decide +kernel
theorem dX12_changes_75 : decode cX12_changes 75 = .ok (.iload 6, 2) := by decide +kernel
theorem dX12_changes_77 : decode cX12_changes 77 = .ok (.iload 5, 2) := by decide +kernel
theorem dX12_changes_79 : decode cX12_changes 79 = .ok (.invokevirtual 156, 3) := by decide +kernel
theorem dX12_changes_82 : decode cX12_changes 82 = .ok (.ifCond .eq 25, 3) := by decide +kernel
theorem dX12_changes_85 : decode cX12_changes 85 = .ok (.aload_n 0, 1) := by decide +kernel
theorem dX12_changes_86 : decode cX12_changes 86 = .ok (.iload 6, 2) := by decide +kernel
theorem dX12_changes_88 : decode cX12_changes 88 = .ok (.iload 4, 2) := by decide +kernel
theorem dX12_changes_90 : decode cX12_changes 90 = .ok (.invokevirtual 156, 3) := by decide +kernel
theorem dX12_changes_93 : decode cX12_changes 93 = .ok (.ifCond .ne 14, 3) := by decide +kernel
theorem dX12_changes_96 : decode cX12_changes 96 = .ok (.aload_n 0, 1) := by decide +kernel
theorem dX12_changes_97 : decode cX12_changes 97 = .ok (.aload_n 0, 1) := by decide +kernel
theorem dX12_changes_98 : decode cX12_changes 98 = .ok (.getfield 49, 3) := by decide +kernel
theorem dX12_changes_101 : decode cX12_changes 101 = .ok (.iload 6, 2) := by decide +kernel
theorem dX12_changes_103 : decode cX12_changes 103 = .ok (.iaload, 1) := by decide +kernel
theorem dX12_changes_104 : decode cX12_changes 104 = .ok (.invokevirtual 238, 3) := by decide +kernel
theorem dX12_changes_107 : decode cX12_changes 107 = .ok (.aload_n 0, 1) := by decide +kernel
theorem dX12_changes_108 : decode cX12_changes 108 = .ok (.getfield 61, 3) := by decide +kernel
theorem dX12_changes_111 : decode cX12_changes 111 = .ok (.iload 6, 2) := by decide +kernel
theorem dX12_changes_113 : decode cX12_changes 113 = .ok (.iaload, 1) := by decide +kernel
theorem dX12_changes_114 : decode cX12_changes 114 = .ok (.istore 6, 2) := by decide +kernel
theorem dX12_changes_116 : decode cX12_changes 116 = .ok (.goto (-47), 3) := by decide +kernel
theorem dX12_changes_119 : decode cX12_changes 119 = .ok (.aload_n 0, 1) := by decide +kernel
theorem dX12_changes_120 : decode cX12_changes 120 = .ok (.getfield 30, 3) := by decide +kernel
theorem dX12_changes_123 : decode cX12_changes 123 = .ok (.iload_n 1, 1) := by decide +kernel
theorem dX12_changes_124 : decode cX12_changes 124 = .ok (.iaload, 1) := by decide +kernel
theorem dX12_changes_125 : decode cX12_changes 125 = .ok (.istore 6, 2) := by decide +kernel
theorem dX12_changes_127 : decode cX12_changes 127 = .ok (.iload 6, 2) := by decide +kernel
theorem dX12_changes_129 : decode cX12_changes 129 = .ok (.ifCond .lt 50, 3) := by decide +kernel
theorem dX12_changes_132 : decode cX12_changes 132 = .ok (.aload_n 0, 1) := by decide +kernel
theorem dX12_changes_133 : decode cX12_changes 133 = .ok (.iload 6, 2) := by decide +kernel
theorem dX12_changes_135 : decode cX12_changes 135 = .ok (.iload 4, 2) := by decide +kernel
theorem dX12_changes_137 : decode cX12_changes 137 = .ok (.invokevirtual 156, 3) := by decide +kernel
theorem dX12_changes_140 : decode cX12_changes 140 = .ok (.ifCond .eq 27, 3) := by decide +kernel
theorem dX12_changes_143 : decode cX12_changes 143 = .ok (.aload_n 0, 1) := by decide +kernel
theorem dX12_changes_144 : decode cX12_changes 144 = .ok (.iload 6, 2) := by decide +kernel
theorem dX12_changes_146 : decode cX12_changes 146 = .ok (.iload 5, 2) := by decide +kernel
theorem dX12_changes_148 : decode cX12_changes 148 = .ok (.invokevirtual 156, 3) := by decide +kernel
theorem dX12_changes_151 : decode cX12_changes 151 = .ok (.ifCond .ne 16, 3) := by decide +kernel
theorem dX12_changes_154 : decode cX12_changes 154 = .ok (.aload_n 0, 1) := by decide +kernel
theorem dX12_changes_155 : decode cX12_changes 155 = .ok (.iconst (-1), 1) := by decide +kernel
theorem dX12_changes_156 : decode cX12_changes 156 = .ok (.aload_n 0, 1) := by decide +kernel
theorem dX12_changes_157 : decode cX12_changes 157 = .ok (.getfield 49, 3) := by decide +kernel
theorem dX12_changes_160 : decode cX12_changes 160 = .ok (.iload 6, 2) := by decide +kernel
theorem dX12_changes_162 : decode cX12_changes 162 = .ok (.iaload, 1) := by decide +kernel
theorem dX12_changes_163 : decode cX12_changes 163 = .ok (.isub, 1) := by decide +kernel
theorem dX12_changes_164 : decode cX12_changes 164 = .ok (.invokevirtual 238, 3) := by decide +kernel
theorem dX12_changes_167 : decode cX12_changes 167 = .ok (.aload_n 0, 1) := by decide +kernel
theorem dX12_changes_168 : decode cX12_changes 168 = .ok (.getfield 61, 3) := by decide +kernel
theorem dX12_changes_171 : decode cX12_changes 171 = .ok (.iload 6, 2) := by decide +kernel
theorem dX12_changes_173 : decode cX12_changes 173 = .ok (.iaload, 1) := by decide +kernel
theorem dX12_changes_174 : decode cX12_changes 174 = .ok (.istore 6, 2) := by decide +kernel
theorem dX12_changes_176 : decode cX12_changes 176 = .ok (.goto (-49), 3) := by decide +kernel
theorem dX12_changes_179 : decode cX12_changes 179 = .ok (.aload_n 0, 1) := by decide +kernel
theorem dX12_changes_180 : decode cX12_changes 180 = .ok (.getfield 235, 3) := by decide +kernel
theorem dX12_changes_183 : decode cX12_changes 183 = .ok (.ireturn, 1) := by decide +kernel
set_option maxRecDepth 20000 in
theorem ggX12_found_X12_fails : GoodIn wsX12_found wsX12_fails := goodIn_r _ [7, 8, 9, 10, 11, 12, 13, 14, 15, 16, 17, 18, 19, 20, 21, 22, 23, 24, 25, 26, 27, 28, 29, 30, 31, 32, 33, 34, 35, 36, 37, 38, 39, 40, 41, 42, 43, 44, 45, 46, 47, 48, 49, 50, 51, 52, 53, 54, 55, 56, 57, 58, 59, 60, 61, 62, 63, 64, 65] (by decide +kernel) (by decide +kernel)
set_option maxRecDepth 20000 in
theorem gX12_found_X12_fails : GoodIn wsX12_found (wsV RX12 136 RX12 yX12_fails wsX12_fails) := goodIn_app (goodIn_of _ (by decide +kernel)) ggX12_found_X12_fails
theorem dX12_found_0 : decode cX12_found 0 = .ok (.aload_n 0, 1) := by decide +kernel
theorem dX12_found_1 : decode cX12_found 1 = .ok (.iload_n 1, 1) := by decide +kernel
theorem dX12_found_2 : decode cX12_found 2 = .ok (.ifCond .lt 11, 3) := by decide +kernel
theorem dX12_found_5 : decode cX12_found 5 = .ok (.iload_n 1, 1) := by decide +kernel
theorem dX12_found_6 : decode cX12_found 6 = .ok (.aload_n 0, 1) := by decide +kernel
theorem dX12_found_7 : decode cX12_found 7 = .ok (.getfield 235, 3) := by decide +kernel
theorem dX12_found_10 : decode cX12_found 10 = .ok (.if_icmp .lt 7, 3) := by decide +kernel
theorem dX12_found_13 : decode cX12_found 13 = .ok (.iconst 1, 1) := by decide +kernel
theorem dX12_found_14 : decode cX12_found 14 = .ok (.goto 4, 3) := by decide +kernel
theorem dX12_found_17 : decode cX12_found 17 = .ok (.iconst 0, 1) := by decide +kernel
theorem dX12_found_18 : decode cX12_found 18 = .ok (.invokevirtual 136, 3) := by decide +kernel
theorem dX12_found_21 : decode cX12_found 21 = .ok (.ifCond .eq 5, 3) := by decide +kernel
theorem dX12_found_24 : decode cX12_found 24 = .ok (.iconst 0, 1) := by decide +kernel
theorem dX12_found_25 : decode cX12_found 25 = .ok (.ireturn, 1) := by decide +kernel
theorem dX12_found_26 : decode cX12_found 26 = .ok (.aload_n 0, 1) := by decide +kernel
theorem dX12_found_27 : decode cX12_found 27 = .ok (.getfield 97, 3) := by decide +kernel
theorem dX12_found_30 : decode cX12_found 30 = .ok (.iload_n 1, 1) := by decide +kernel
theorem dX12_found_31 : decode cX12_found 31 = .ok (.iaload, 1) := by decide +kernel
theorem dX12_found_32 : decode cX12_found 32 = .ok (.ireturn, 1) := by decide +kernel
theorem dX12_byteAt_0 : decode cX12_byteAt 0 = .ok (.iload_n 1, 1) := by decide +kernel
theorem dX12_byteAt_1 : decode cX12_byteAt 1 = .ok (.aload_n 0, 1) := by decide +kernel
theorem dX12_byteAt_2 : decode cX12_byteAt 2 = .ok (.getfield 241, 3) := by decide +kernel
theorem dX12_byteAt_5 : decode cX12_byteAt 5 = .ok (.if_icmp .ge 12, 3) := by decide +kernel
theorem dX12_byteAt_8 : decode cX12_byteAt 8 = .ok (.aload_n 0, 1) := by decide +kernel
theorem dX12_byteAt_9 : decode cX12_byteAt 9 = .ok (.getfield 13, 3) := by decide +kernel
theorem dX12_byteAt_12 : decode cX12_byteAt 12 = .ok (.iload_n 1, 1) := by decide +kernel
theorem dX12_byteAt_13 : decode cX12_byteAt 13 = .ok (.baload, 1) := by decide +kernel
theorem dX12_byteAt_14 : decode cX12_byteAt 14 = .ok (.goto 4, 3) := by decide +kernel
theorem dX12_byteAt_17 : decode cX12_byteAt 17 = .ok (.iconst (-1), 1) := by decide +kernel
theorem dX12_byteAt_18 : decode cX12_byteAt 18 = .ok (.ireturn, 1) := by decide +kernel
set_option maxRecDepth 20000 in
theorem ggX12_blanks_X12_byteAt : GoodIn wsX12_blanks wsX12_byteAt := goodIn_r _ [6, 7, 8, 9, 10, 11, 12, 13, 14, 15, 16, 17, 18, 19, 20, 21, 22, 23, 24, 25, 26, 27, 28, 29, 30, 31, 32, 33, 34, 35, 36, 37, 38, 39, 40, 41, 42, 43, 44, 45, 46, 47, 48, 49, 50, 51, 52, 53, 54, 55, 56, 57, 58, 59, 60, 61, 62, 63, 64, 65] (by decide +kernel) (by decide +kernel)
set_option maxRecDepth 20000 in
theorem gX12_blanks_X12_byteAt : GoodIn wsX12_blanks (wsV RX12 247 RX12 yX12_byteAt wsX12_byteAt) := goodIn_app (goodIn_of _ (by decide +kernel)) ggX12_blanks_X12_byteAt
theorem dX12_blanks_0 : decode cX12_blanks 0 = .ok (.aload_n 0, 1) := by decide +kernel
theorem dX12_blanks_1 : decode cX12_blanks 1 = .ok (.aload_n 0, 1) := by decide +kernel
theorem dX12_blanks_2 : decode cX12_blanks 2 = .ok (.getfield 244, 3) := by decide +kernel
theorem dX12_blanks_5 : decode cX12_blanks 5 = .ok (.invokevirtual 247, 3) := by decide +kernel
theorem dX12_blanks_8 : decode cX12_blanks 8 = .ok (.bipush 32, 2) := by decide +kernel
theorem dX12_blanks_10 : decode cX12_blanks 10 = .ok (.if_icmp .ne 16, 3) := by decide +kernel
theorem dX12_blanks_13 : decode cX12_blanks 13 = .ok (.aload_n 0, 1) := by decide +kernel
theorem dX12_blanks_14 : decode cX12_blanks 14 = .ok (.dup, 1) := by decide +kernel
theorem dX12_blanks_15 : decode cX12_blanks 15 = .ok (.getfield 244, 3) := by decide +kernel
theorem dX12_blanks_18 : decode cX12_blanks 18 = .ok (.iconst 1, 1) := by decide +kernel
theorem dX12_blanks_19 : decode cX12_blanks 19 = .ok (.iadd, 1) := by decide +kernel
theorem dX12_blanks_20 : decode cX12_blanks 20 = .ok (.putfield 244, 3) := by decide +kernel
theorem dX12_blanks_23 : decode cX12_blanks 23 = .ok (.goto (-23), 3) := by decide +kernel
theorem dX12_blanks_26 : decode cX12_blanks 26 = .ok (.return_, 1) := by decide +kernel
theorem dX12_isDigit_0 : decode cX12_isDigit 0 = .ok (.iload_n 1, 1) := by decide +kernel
theorem dX12_isDigit_1 : decode cX12_isDigit 1 = .ok (.bipush 48, 2) := by decide +kernel
theorem dX12_isDigit_3 : decode cX12_isDigit 3 = .ok (.if_icmp .lt 13, 3) := by decide +kernel
theorem dX12_isDigit_6 : decode cX12_isDigit 6 = .ok (.iload_n 1, 1) := by decide +kernel
theorem dX12_isDigit_7 : decode cX12_isDigit 7 = .ok (.bipush 57, 2) := by decide +kernel
theorem dX12_isDigit_9 : decode cX12_isDigit 9 = .ok (.if_icmp .gt 7, 3) := by decide +kernel
theorem dX12_isDigit_12 : decode cX12_isDigit 12 = .ok (.iconst 1, 1) := by decide +kernel
theorem dX12_isDigit_13 : decode cX12_isDigit 13 = .ok (.goto 4, 3) := by decide +kernel
theorem dX12_isDigit_16 : decode cX12_isDigit 16 = .ok (.iconst 0, 1) := by decide +kernel
theorem dX12_isDigit_17 : decode cX12_isDigit 17 = .ok (.ireturn, 1) := by decide +kernel
set_option maxRecDepth 20000 in
theorem ggX12_argument_X12_blanks : GoodIn wsX12_argument wsX12_blanks := goodIn_r _ [9, 1, 10, 11, 12, 8, 13, 14, 15, 28, 29, 30, 31, 32, 33, 34, 35, 36, 37, 38, 39, 40, 41, 42, 43, 44, 45, 46, 47, 48, 49, 50, 51, 52, 53, 54, 55, 56, 57, 58, 59, 60, 61, 62, 63, 64, 65, 66, 67, 68, 69, 70, 71, 72, 73, 74, 75, 76, 77, 78, 79, 80, 81, 82, 83, 84] (by decide +kernel) (by decide +kernel)
set_option maxRecDepth 20000 in
theorem gX12_argument_X12_blanks : GoodIn wsX12_argument (wsV RX12 250 RX12 yX12_blanks wsX12_blanks) := goodIn_app (goodIn_of _ (by decide +kernel)) ggX12_argument_X12_blanks
set_option maxRecDepth 20000 in
theorem ggX12_argument_X12_byteAt : GoodIn wsX12_argument wsX12_byteAt := goodIn_r _ [13, 14, 15, 28, 29, 30, 31, 32, 33, 34, 35, 36, 37, 38, 39, 40, 41, 42, 43, 44, 45, 46, 47, 48, 49, 50, 51, 52, 53, 54, 55, 56, 57, 58, 59, 60, 61, 62, 63, 64, 65, 66, 67, 68, 69, 70, 71, 72, 73, 74, 75, 76, 77, 78, 79, 80, 81, 82, 83, 84] (by decide +kernel) (by decide +kernel)
set_option maxRecDepth 20000 in
theorem gX12_argument_X12_byteAt : GoodIn wsX12_argument (wsV RX12 247 RX12 yX12_byteAt wsX12_byteAt) := goodIn_app (goodIn_of _ (by decide +kernel)) ggX12_argument_X12_byteAt
set_option maxRecDepth 20000 in
theorem ggX12_argument_X12_isDigit : GoodIn wsX12_argument wsX12_isDigit := goodIn_r _ [19] (by decide +kernel) (by decide +kernel)
set_option maxRecDepth 20000 in
theorem gX12_argument_X12_isDigit : GoodIn wsX12_argument (wsV RX12 253 RX12 yX12_isDigit wsX12_isDigit) := goodIn_app (goodIn_of _ (by decide +kernel)) ggX12_argument_X12_isDigit
theorem dX12_argument_0 : decode cX12_argument 0 = .ok (.aload_n 0, 1) := by decide +kernel
theorem dX12_argument_1 : decode cX12_argument 1 = .ok (.invokevirtual 250, 3) := by decide +kernel
theorem dX12_argument_4 : decode cX12_argument 4 = .ok (.aload_n 0, 1) := by decide +kernel
theorem dX12_argument_5 : decode cX12_argument 5 = .ok (.aload_n 0, 1) := by decide +kernel
theorem dX12_argument_6 : decode cX12_argument 6 = .ok (.getfield 244, 3) := by decide +kernel
theorem dX12_argument_9 : decode cX12_argument 9 = .ok (.invokevirtual 247, 3) := by decide +kernel
theorem dX12_argument_12 : decode cX12_argument 12 = .ok (.istore_n 3, 1) := by decide +kernel
theorem dX12_argument_13 : decode cX12_argument 13 = .ok (.iload_n 3, 1) := by decide +kernel
theorem dX12_argument_14 : decode cX12_argument 14 = .ok (.bipush 65, 2) := by decide +kernel
theorem dX12_argument_16 : decode cX12_argument 16 = .ok (.if_icmp .lt 38, 3) := by decide +kernel
theorem dX12_argument_19 : decode cX12_argument 19 = .ok (.iload_n 3, 1) := by decide +kernel
theorem dX12_argument_20 : decode cX12_argument 20 = .ok (.bipush 72, 2) := by decide +kernel
theorem dX12_argument_22 : decode cX12_argument 22 = .ok (.if_icmp .gt 32, 3) := by decide +kernel
theorem dX12_argument_25 : decode cX12_argument 25 = .ok (.aload_n 0, 1) := by decide +kernel
theorem dX12_argument_26 : decode cX12_argument 26 = .ok (.getfield 109, 3) := by decide +kernel
theorem dX12_argument_29 : decode cX12_argument 29 = .ok (.iload_n 1, 1) := by decide +kernel
theorem dX12_argument_30 : decode cX12_argument 30 = .ok (.iconst 1, 1) := by decide +kernel
theorem dX12_argument_31 : decode cX12_argument 31 = .ok (.iastore, 1) := by decide +kernel
theorem dX12_argument_32 : decode cX12_argument 32 = .ok (.aload_n 0, 1) := by decide +kernel
theorem dX12_argument_33 : decode cX12_argument 33 = .ok (.getfield 112, 3) := by decide +kernel
theorem dX12_argument_36 : decode cX12_argument 36 = .ok (.iload_n 1, 1) := by decide +kernel
theorem dX12_argument_37 : decode cX12_argument 37 = .ok (.iload_n 3, 1) := by decide +kernel
theorem dX12_argument_38 : decode cX12_argument 38 = .ok (.bipush 65, 2) := by decide +kernel
theorem dX12_argument_40 : decode cX12_argument 40 = .ok (.isub, 1) := by decide +kernel
theorem dX12_argument_41 : decode cX12_argument 41 = .ok (.iastore, 1) := by decide +kernel
theorem dX12_argument_42 : decode cX12_argument 42 = .ok (.aload_n 0, 1) := by decide +kernel
theorem dX12_argument_43 : decode cX12_argument 43 = .ok (.dup, 1) := by decide +kernel
theorem dX12_argument_44 : decode cX12_argument 44 = .ok (.getfield 244, 3) := by decide +kernel
theorem dX12_argument_47 : decode cX12_argument 47 = .ok (.iconst 1, 1) := by decide +kernel
theorem dX12_argument_48 : decode cX12_argument 48 = .ok (.iadd, 1) := by decide +kernel
theorem dX12_argument_49 : decode cX12_argument 49 = .ok (.putfield 244, 3) := by decide +kernel
theorem dX12_argument_52 : decode cX12_argument 52 = .ok (.iconst 1, 1) := by decide +kernel
theorem dX12_argument_53 : decode cX12_argument 53 = .ok (.ireturn, 1) := by decide +kernel
theorem dX12_argument_54 : decode cX12_argument 54 = .ok (.iload_n 2, 1) := by decide +kernel
theorem dX12_argument_55 : decode cX12_argument 55 = .ok (.ifCond .eq 35, 3) := by decide +kernel
theorem dX12_argument_58 : decode cX12_argument 58 = .ok (.iload_n 3, 1) := by decide +kernel
theorem dX12_argument_59 : decode cX12_argument 59 = .ok (.bipush 95, 2) := by decide +kernel
theorem dX12_argument_61 : decode cX12_argument 61 = .ok (.if_icmp .ne 29, 3) := by decide +kernel
theorem dX12_argument_64 : decode cX12_argument 64 = .ok (.aload_n 0, 1) := by decide +kernel
theorem dX12_argument_65 : decode cX12_argument 65 = .ok (.getfield 109, 3) := by decide +kernel
theorem dX12_argument_68 : decode cX12_argument 68 = .ok (.iload_n 1, 1) := by decide +kernel
theorem dX12_argument_69 : decode cX12_argument 69 = .ok (.iconst 2, 1) := by decide +kernel
theorem dX12_argument_70 : decode cX12_argument 70 = .ok (.iastore, 1) := by decide +kernel
theorem dX12_argument_71 : decode cX12_argument 71 = .ok (.aload_n 0, 1) := by decide +kernel
theorem dX12_argument_72 : decode cX12_argument 72 = .ok (.getfield 112, 3) := by decide +kernel
theorem dX12_argument_75 : decode cX12_argument 75 = .ok (.iload_n 1, 1) := by decide +kernel
theorem dX12_argument_76 : decode cX12_argument 76 = .ok (.iconst 0, 1) := by decide +kernel
theorem dX12_argument_77 : decode cX12_argument 77 = .ok (.iastore, 1) := by decide +kernel
theorem dX12_argument_78 : decode cX12_argument 78 = .ok (.aload_n 0, 1) := by decide +kernel
theorem dX12_argument_79 : decode cX12_argument 79 = .ok (.dup, 1) := by decide +kernel
theorem dX12_argument_80 : decode cX12_argument 80 = .ok (.getfield 244, 3) := by decide +kernel
theorem dX12_argument_83 : decode cX12_argument 83 = .ok (.iconst 1, 1) := by decide +kernel
theorem dX12_argument_84 : decode cX12_argument 84 = .ok (.iadd, 1) := by decide +kernel
theorem dX12_argument_85 : decode cX12_argument 85 = .ok (.putfield 244, 3) := by decide +kernel
theorem dX12_argument_88 : decode cX12_argument 88 = .ok (.iconst 1, 1) := by decide +kernel
theorem dX12_argument_89 : decode cX12_argument 89 = .ok (.ireturn, 1) := by decide +kernel
theorem dX12_argument_90 : decode cX12_argument 90 = .ok (.iload_n 3, 1) := by decide +kernel
theorem dX12_argument_91 : decode cX12_argument 91 = .ok (.bipush 45, 2) := by decide +kernel
theorem dX12_argument_93 : decode cX12_argument 93 = .ok (.if_icmp .eq 11, 3) := by decide +kernel
theorem dX12_argument_96 : decode cX12_argument 96 = .ok (.aload_n 0, 1) := by decide +kernel
theorem dX12_argument_97 : decode cX12_argument 97 = .ok (.iload_n 3, 1) := by decide +kernel
theorem dX12_argument_98 : decode cX12_argument 98 = .ok (.invokevirtual 253, 3) := by decide +kernel
theorem dX12_argument_101 : decode cX12_argument 101 = .ok (.ifCond .eq 10, 3) := by decide +kernel
theorem dX12_argument_104 : decode cX12_argument 104 = .ok (.aload_n 0, 1) := by decide +kernel
theorem dX12_argument_105 : decode cX12_argument 105 = .ok (.invokevirtual 262, 3) := by decide +kernel
theorem dX12_argument_108 : decode cX12_argument 108 = .ok (.ifCond .ne 5, 3) := by decide +kernel
theorem dX12_argument_111 : decode cX12_argument 111 = .ok (.iconst 0, 1) := by decide +kernel
theorem dX12_argument_112 : decode cX12_argument 112 = .ok (.ireturn, 1) := by decide +kernel
theorem dX12_argument_113 : decode cX12_argument 113 = .ok (.aload_n 0, 1) := by decide +kernel
theorem dX12_argument_114 : decode cX12_argument 114 = .ok (.getfield 109, 3) := by decide +kernel
theorem dX12_argument_117 : decode cX12_argument 117 = .ok (.iload_n 1, 1) := by decide +kernel
theorem dX12_argument_118 : decode cX12_argument 118 = .ok (.iconst 0, 1) := by decide +kernel
theorem dX12_argument_119 : decode cX12_argument 119 = .ok (.iastore, 1) := by decide +kernel
theorem dX12_argument_120 : decode cX12_argument 120 = .ok (.aload_n 0, 1) := by decide +kernel
theorem dX12_argument_121 : decode cX12_argument 121 = .ok (.getfield 112, 3) := by decide +kernel
theorem dX12_argument_124 : decode cX12_argument 124 = .ok (.iload_n 1, 1) := by decide +kernel
theorem dX12_argument_125 : decode cX12_argument 125 = .ok (.aload_n 0, 1) := by decide +kernel
theorem dX12_argument_126 : decode cX12_argument 126 = .ok (.getfield 259, 3) := by decide +kernel
theorem dX12_argument_129 : decode cX12_argument 129 = .ok (.iastore, 1) := by decide +kernel
theorem dX12_argument_130 : decode cX12_argument 130 = .ok (.iconst 1, 1) := by decide +kernel
theorem dX12_argument_131 : decode cX12_argument 131 = .ok (.ireturn, 1) := by decide +kernel
theorem dX12_wrong_0 : decode cX12_wrong 0 = .ok (.aload_n 0, 1) := by decide +kernel
theorem dX12_wrong_1 : decode cX12_wrong 1 = .ok (.iload_n 1, 1) := by decide +kernel
theorem dX12_wrong_2 : decode cX12_wrong 2 = .ok (.aload_n 0, 1) := by decide +kernel
theorem dX12_wrong_3 : decode cX12_wrong 3 = .ok (.getfield 241, 3) := by decide +kernel
theorem dX12_wrong_6 : decode cX12_wrong 6 = .ok (.if_icmp .ge 7, 3) := by decide +kernel
theorem dX12_wrong_9 : decode cX12_wrong 9 = .ok (.iload_n 1, 1) := by decide +kernel
theorem dX12_wrong_10 : decode cX12_wrong 10 = .ok (.goto 7, 3) := by decide +kernel
theorem dX12_wrong_13 : decode cX12_wrong 13 = .ok (.aload_n 0, 1) := by decide +kernel
theorem dX12_wrong_14 : decode cX12_wrong 14 = .ok (.getfield 241, 3) := by decide +kernel
theorem dX12_wrong_17 : decode cX12_wrong 17 = .ok (.putfield 100, 3) := by decide +kernel
theorem dX12_wrong_20 : decode cX12_wrong 20 = .ok (.iconst 0, 1) := by decide +kernel
theorem dX12_wrong_21 : decode cX12_wrong 21 = .ok (.ireturn, 1) := by decide +kernel
set_option maxRecDepth 20000 in
theorem ggX12_otherGoal_X12_argument : GoodIn wsX12_otherGoal wsX12_argument := goodIn_r _ [10, 1, 3, 5, 11, 12, 13, 14, 9, 15, 16, 17, 18, 19, 20, 21, 22, 23, 24, 25, 26, 27, 28, 29, 30, 31, 32, 33, 47, 48, 49, 50, 51, 52, 53, 54, 55, 56, 57, 58, 59, 60, 61, 62, 63, 64, 65, 66, 67, 68, 69, 70, 71, 72, 73, 74, 75, 76, 77, 78, 79, 80, 81, 82, 83, 84, 85, 86, 87, 88, 89, 90, 91, 92, 93, 94, 95, 96, 97, 98, 99, 100, 101, 102, 103] (by decide +kernel) (by decide +kernel)
set_option maxRecDepth 20000 in
theorem gX12_otherGoal_X12_argument : GoodIn wsX12_otherGoal (wsV RX12 272 RX12 yX12_argument wsX12_argument) := goodIn_app (goodIn_of _ (by decide +kernel)) ggX12_otherGoal_X12_argument
set_option maxRecDepth 20000 in
theorem ggX12_otherGoal_X12_wrong : GoodIn wsX12_otherGoal wsX12_wrong := goodIn_r _ [37, 20, 38, 47, 48, 49, 50, 51, 52, 53, 54, 55, 56, 57, 58, 59, 60, 61, 62, 63, 64, 65, 66, 67, 68, 69, 70, 71, 72, 73, 74, 75, 76, 77, 78, 79, 80, 81, 82, 83, 84, 85, 86, 87, 88, 89, 90, 91, 92, 93, 94, 95, 96, 97, 98, 99, 100, 101, 102, 103] (by decide +kernel) (by decide +kernel)
set_option maxRecDepth 20000 in
theorem gX12_otherGoal_X12_wrong : GoodIn wsX12_otherGoal (wsV RX12 266 RX12 yX12_wrong wsX12_wrong) := goodIn_app (goodIn_of _ (by decide +kernel)) ggX12_otherGoal_X12_wrong
set_option maxRecDepth 20000 in
theorem ggX12_otherGoal_X12_blanks : GoodIn wsX12_otherGoal wsX12_blanks := goodIn_r _ [15, 1, 16, 17, 18, 9, 19, 20, 21, 47, 48, 49, 50, 51, 52, 53, 54, 55, 56, 57, 58, 59, 60, 61, 62, 63, 64, 65, 66, 67, 68, 69, 70, 71, 72, 73, 74, 75, 76, 77, 78, 79, 80, 81, 82, 83, 84, 85, 86, 87, 88, 89, 90, 91, 92, 93, 94, 95, 96, 97, 98, 99, 100, 101, 102, 103] (by decide +kernel) (by decide +kernel)
set_option maxRecDepth 20000 in
theorem gX12_otherGoal_X12_blanks : GoodIn wsX12_otherGoal (wsV RX12 250 RX12 yX12_blanks wsX12_blanks) := goodIn_app (goodIn_of _ (by decide +kernel)) ggX12_otherGoal_X12_blanks
set_option maxRecDepth 20000 in
theorem ggX12_otherGoal_X12_byteAt : GoodIn wsX12_otherGoal wsX12_byteAt := goodIn_r _ [19, 20, 21, 47, 48, 49, 50, 51, 52, 53, 54, 55, 56, 57, 58, 59, 60, 61, 62, 63, 64, 65, 66, 67, 68, 69, 70, 71, 72, 73, 74, 75, 76, 77, 78, 79, 80, 81, 82, 83, 84, 85, 86, 87, 88, 89, 90, 91, 92, 93, 94, 95, 96, 97, 98, 99, 100, 101, 102, 103] (by decide +kernel) (by decide +kernel)
set_option maxRecDepth 20000 in
theorem gX12_otherGoal_X12_byteAt : GoodIn wsX12_otherGoal (wsV RX12 247 RX12 yX12_byteAt wsX12_byteAt) := goodIn_app (goodIn_of _ (by decide +kernel)) ggX12_otherGoal_X12_byteAt
theorem dX12_otherGoal_0 : decode cX12_otherGoal 0 = .ok (.aload_n 0, 1) := by decide +kernel
theorem dX12_otherGoal_1 : decode cX12_otherGoal 1 = .ok (.getfield 244, 3) := by decide +kernel
theorem dX12_otherGoal_4 : decode cX12_otherGoal 4 = .ok (.istore_n 2, 1) := by decide +kernel
theorem dX12_otherGoal_5 : decode cX12_otherGoal 5 = .ok (.aload_n 0, 1) := by decide +kernel
theorem dX12_otherGoal_6 : decode cX12_otherGoal 6 = .ok (.iconst 5, 1) := by decide +kernel
theorem dX12_otherGoal_7 : decode cX12_otherGoal 7 = .ok (.iload_n 1, 1) := by decide +kernel
theorem dX12_otherGoal_8 : decode cX12_otherGoal 8 = .ok (.imul, 1) := by decide +kernel
theorem dX12_otherGoal_9 : decode cX12_otherGoal 9 = .ok (.iconst 0, 1) := by decide +kernel
theorem dX12_otherGoal_10 : decode cX12_otherGoal 10 = .ok (.invokevirtual 272, 3) := by decide +kernel
theorem dX12_otherGoal_13 : decode cX12_otherGoal 13 = .ok (.ifCond .ne 9, 3) := by decide +kernel
theorem dX12_otherGoal_16 : decode cX12_otherGoal 16 = .ok (.aload_n 0, 1) := by decide +kernel
theorem dX12_otherGoal_17 : decode cX12_otherGoal 17 = .ok (.iload_n 2, 1) := by decide +kernel
theorem dX12_otherGoal_18 : decode cX12_otherGoal 18 = .ok (.invokevirtual 266, 3) := by decide +kernel
theorem dX12_otherGoal_21 : decode cX12_otherGoal 21 = .ok (.ireturn, 1) := by decide +kernel
theorem dX12_otherGoal_22 : decode cX12_otherGoal 22 = .ok (.aload_n 0, 1) := by decide +kernel
theorem dX12_otherGoal_23 : decode cX12_otherGoal 23 = .ok (.getfield 115, 3) := by decide +kernel
theorem dX12_otherGoal_26 : decode cX12_otherGoal 26 = .ok (.iload_n 1, 1) := by decide +kernel
theorem dX12_otherGoal_27 : decode cX12_otherGoal 27 = .ok (.iconst 1, 1) := by decide +kernel
theorem dX12_otherGoal_28 : decode cX12_otherGoal 28 = .ok (.iadd, 1) := by decide +kernel
theorem dX12_otherGoal_29 : decode cX12_otherGoal 29 = .ok (.aload_n 0, 1) := by decide +kernel
theorem dX12_otherGoal_30 : decode cX12_otherGoal 30 = .ok (.getfield 115, 3) := by decide +kernel
theorem dX12_otherGoal_33 : decode cX12_otherGoal 33 = .ok (.iload_n 1, 1) := by decide +kernel
theorem dX12_otherGoal_34 : decode cX12_otherGoal 34 = .ok (.iaload, 1) := by decide +kernel
theorem dX12_otherGoal_35 : decode cX12_otherGoal 35 = .ok (.iastore, 1) := by decide +kernel
theorem dX12_otherGoal_36 : decode cX12_otherGoal 36 = .ok (.aload_n 0, 1) := by decide +kernel
theorem dX12_otherGoal_37 : decode cX12_otherGoal 37 = .ok (.invokevirtual 250, 3) := by decide +kernel
theorem dX12_otherGoal_40 : decode cX12_otherGoal 40 = .ok (.aload_n 0, 1) := by decide +kernel
theorem dX12_otherGoal_41 : decode cX12_otherGoal 41 = .ok (.aload_n 0, 1) := by decide +kernel
theorem dX12_otherGoal_42 : decode cX12_otherGoal 42 = .ok (.getfield 244, 3) := by decide +kernel
theorem dX12_otherGoal_45 : decode cX12_otherGoal 45 = .ok (.invokevirtual 247, 3) := by decide +kernel
theorem dX12_otherGoal_48 : decode cX12_otherGoal 48 = .ok (.istore_n 3, 1) := by decide +kernel
theorem dX12_otherGoal_49 : decode cX12_otherGoal 49 = .ok (.iload_n 3, 1) := by decide +kernel
theorem dX12_otherGoal_50 : decode cX12_otherGoal 50 = .ok (.bipush 58, 2) := by decide +kernel
theorem dX12_otherGoal_52 : decode cX12_otherGoal 52 = .ok (.if_icmp .ne 180, 3) := by decide +kernel
theorem dX12_otherGoal_55 : decode cX12_otherGoal 55 = .ok (.aload_n 0, 1) := by decide +kernel
theorem dX12_otherGoal_56 : decode cX12_otherGoal 56 = .ok (.getfield 109, 3) := by decide +kernel
theorem dX12_otherGoal_59 : decode cX12_otherGoal 59 = .ok (.iconst 5, 1) := by decide +kernel
theorem dX12_otherGoal_60 : decode cX12_otherGoal 60 = .ok (.iload_n 1, 1) := by decide +kernel
theorem dX12_otherGoal_61 : decode cX12_otherGoal 61 = .ok (.imul, 1) := by decide +kernel
theorem dX12_otherGoal_62 : decode cX12_otherGoal 62 = .ok (.iaload, 1) := by decide +kernel
theorem dX12_otherGoal_63 : decode cX12_otherGoal 63 = .ok (.iconst 1, 1) := by decide +kernel
theorem dX12_otherGoal_64 : decode cX12_otherGoal 64 = .ok (.if_icmp .ne 168, 3) := by decide +kernel
theorem dX12_otherGoal_67 : decode cX12_otherGoal 67 = .ok (.aload_n 0, 1) := by decide +kernel
theorem dX12_otherGoal_68 : decode cX12_otherGoal 68 = .ok (.iload_n 1, 1) := by decide +kernel
theorem dX12_otherGoal_69 : decode cX12_otherGoal 69 = .ok (.iconst 5, 1) := by decide +kernel
theorem dX12_otherGoal_70 : decode cX12_otherGoal 70 = .ok (.iload_n 1, 1) := by decide +kernel
theorem dX12_otherGoal_71 : decode cX12_otherGoal 71 = .ok (.imul, 1) := by decide +kernel
theorem dX12_otherGoal_72 : decode cX12_otherGoal 72 = .ok (.invokevirtual 275, 3) := by decide +kernel
theorem dX12_otherGoal_75 : decode cX12_otherGoal 75 = .ok (.ifCond .eq 9, 3) := by decide +kernel
theorem dX12_otherGoal_78 : decode cX12_otherGoal 78 = .ok (.aload_n 0, 1) := by decide +kernel
theorem dX12_otherGoal_79 : decode cX12_otherGoal 79 = .ok (.iload_n 2, 1) := by decide +kernel
theorem dX12_otherGoal_80 : decode cX12_otherGoal 80 = .ok (.invokevirtual 266, 3) := by decide +kernel
theorem dX12_otherGoal_83 : decode cX12_otherGoal 83 = .ok (.ireturn, 1) := by decide +kernel
theorem dX12_otherGoal_84 : decode cX12_otherGoal 84 = .ok (.aload_n 0, 1) := by decide +kernel
theorem dX12_otherGoal_85 : decode cX12_otherGoal 85 = .ok (.dup, 1) := by decide +kernel
theorem dX12_otherGoal_86 : decode cX12_otherGoal 86 = .ok (.getfield 244, 3) := by decide +kernel
theorem dX12_otherGoal_89 : decode cX12_otherGoal 89 = .ok (.iconst 1, 1) := by decide +kernel
theorem dX12_otherGoal_90 : decode cX12_otherGoal 90 = .ok (.iadd, 1) := by decide +kernel
theorem dX12_otherGoal_91 : decode cX12_otherGoal 91 = .ok (.putfield 244, 3) := by decide +kernel
theorem dX12_otherGoal_94 : decode cX12_otherGoal 94 = .ok (.aload_n 0, 1) := by decide +kernel
theorem dX12_otherGoal_95 : decode cX12_otherGoal 95 = .ok (.iload_n 1, 1) := by decide +kernel
theorem dX12_otherGoal_96 : decode cX12_otherGoal 96 = .ok (.iconst 5, 1) := by decide +kernel
theorem dX12_otherGoal_97 : decode cX12_otherGoal 97 = .ok (.iload_n 1, 1) := by decide +kernel
theorem dX12_otherGoal_98 : decode cX12_otherGoal 98 = .ok (.imul, 1) := by decide +kernel
theorem dX12_otherGoal_99 : decode cX12_otherGoal 99 = .ok (.iconst 1, 1) := by decide +kernel
theorem dX12_otherGoal_100 : decode cX12_otherGoal 100 = .ok (.iadd, 1) := by decide +kernel
theorem dX12_otherGoal_101 : decode cX12_otherGoal 101 = .ok (.invokevirtual 278, 3) := by decide +kernel
theorem dX12_otherGoal_104 : decode cX12_otherGoal 104 = .ok (.ifCond .ne 5, 3) := by decide +kernel
theorem dX12_otherGoal_107 : decode cX12_otherGoal 107 = .ok (.iconst 0, 1) := by decide +kernel
theorem dX12_otherGoal_108 : decode cX12_otherGoal 108 = .ok (.ireturn, 1) := by decide +kernel
theorem dX12_otherGoal_109 : decode cX12_otherGoal 109 = .ok (.aload_n 0, 1) := by decide +kernel
theorem dX12_otherGoal_110 : decode cX12_otherGoal 110 = .ok (.invokevirtual 250, 3) := by decide +kernel
theorem dX12_otherGoal_113 : decode cX12_otherGoal 113 = .ok (.aload_n 0, 1) := by decide +kernel
theorem dX12_otherGoal_114 : decode cX12_otherGoal 114 = .ok (.aload_n 0, 1) := by decide +kernel
theorem dX12_otherGoal_115 : decode cX12_otherGoal 115 = .ok (.getfield 244, 3) := by decide +kernel
theorem dX12_otherGoal_118 : decode cX12_otherGoal 118 = .ok (.invokevirtual 247, 3) := by decide +kernel
theorem dX12_otherGoal_121 : decode cX12_otherGoal 121 = .ok (.istore 4, 2) := by decide +kernel
theorem dX12_otherGoal_123 : decode cX12_otherGoal 123 = .ok (.iload 4, 2) := by decide +kernel
theorem dX12_otherGoal_125 : decode cX12_otherGoal 125 = .ok (.bipush 43, 2) := by decide +kernel
theorem dX12_otherGoal_127 : decode cX12_otherGoal 127 = .ok (.if_icmp .eq 26, 3) := by decide +kernel
theorem dX12_otherGoal_130 : decode cX12_otherGoal 130 = .ok (.iload 4, 2) := by decide +kernel
theorem dX12_otherGoal_132 : decode cX12_otherGoal 132 = .ok (.bipush 45, 2) := by decide +kernel
theorem dX12_otherGoal_134 : decode cX12_otherGoal 134 = .ok (.if_icmp .eq 19, 3) := by decide +kernel
theorem dX12_otherGoal_137 : decode cX12_otherGoal 137 = .ok (.iload 4, 2) := by decide +kernel
theorem dX12_otherGoal_139 : decode cX12_otherGoal 139 = .ok (.bipush 42, 2) := by decide +kernel
theorem dX12_otherGoal_141 : decode cX12_otherGoal 141 = .ok (.if_icmp .eq 12, 3) := by decide +kernel
theorem dX12_otherGoal_144 : decode cX12_otherGoal 144 = .ok (.aload_n 0, 1) := by decide +kernel
theorem dX12_otherGoal_145 : decode cX12_otherGoal 145 = .ok (.aload_n 0, 1) := by decide +kernel
theorem dX12_otherGoal_146 : decode cX12_otherGoal 146 = .ok (.getfield 244, 3) := by decide +kernel
theorem dX12_otherGoal_149 : decode cX12_otherGoal 149 = .ok (.invokevirtual 266, 3) := by decide +kernel
theorem dX12_otherGoal_152 : decode cX12_otherGoal 152 = .ok (.ireturn, 1) := by decide +kernel
theorem dX12_otherGoal_153 : decode cX12_otherGoal 153 = .ok (.aload_n 0, 1) := by decide +kernel
theorem dX12_otherGoal_154 : decode cX12_otherGoal 154 = .ok (.getfield 103, 3) := by decide +kernel
theorem dX12_otherGoal_157 : decode cX12_otherGoal 157 = .ok (.iload_n 1, 1) := by decide +kernel
theorem dX12_otherGoal_158 : decode cX12_otherGoal 158 = .ok (.iload 4, 2) := by decide +kernel
theorem dX12_otherGoal_160 : decode cX12_otherGoal 160 = .ok (.bipush 43, 2) := by decide +kernel
theorem dX12_otherGoal_162 : decode cX12_otherGoal 162 = .ok (.if_icmp .ne 7, 3) := by decide +kernel
theorem dX12_otherGoal_165 : decode cX12_otherGoal 165 = .ok (.iconst 5, 1) := by decide +kernel
theorem dX12_otherGoal_166 : decode cX12_otherGoal 166 = .ok (.goto 17, 3) := by decide +kernel
theorem dX12_otherGoal_169 : decode cX12_otherGoal 169 = .ok (.iload 4, 2) := by decide +kernel
theorem dX12_otherGoal_171 : decode cX12_otherGoal 171 = .ok (.bipush 45, 2) := by decide +kernel
theorem dX12_otherGoal_173 : decode cX12_otherGoal 173 = .ok (.if_icmp .ne 8, 3) := by decide +kernel
theorem dX12_otherGoal_176 : decode cX12_otherGoal 176 = .ok (.bipush 6, 2) := by decide +kernel
theorem dX12_otherGoal_178 : decode cX12_otherGoal 178 = .ok (.goto 5, 3) := by decide +kernel
theorem dX12_otherGoal_181 : decode cX12_otherGoal 181 = .ok (.bipush 7, 2) := by decide +kernel
theorem dX12_otherGoal_183 : decode cX12_otherGoal 183 = .ok (.iastore, 1) := by decide +kernel
theorem dX12_otherGoal_184 : decode cX12_otherGoal 184 = .ok (.aload_n 0, 1) := by decide +kernel
theorem dX12_otherGoal_185 : decode cX12_otherGoal 185 = .ok (.dup, 1) := by decide +kernel
theorem dX12_otherGoal_186 : decode cX12_otherGoal 186 = .ok (.getfield 244, 3) := by decide +kernel
theorem dX12_otherGoal_189 : decode cX12_otherGoal 189 = .ok (.iconst 1, 1) := by decide +kernel
theorem dX12_otherGoal_190 : decode cX12_otherGoal 190 = .ok (.iadd, 1) := by decide +kernel
theorem dX12_otherGoal_191 : decode cX12_otherGoal 191 = .ok (.putfield 244, 3) := by decide +kernel
theorem dX12_otherGoal_194 : decode cX12_otherGoal 194 = .ok (.aload_n 0, 1) := by decide +kernel
theorem dX12_otherGoal_195 : decode cX12_otherGoal 195 = .ok (.iload_n 1, 1) := by decide +kernel
theorem dX12_otherGoal_196 : decode cX12_otherGoal 196 = .ok (.iconst 5, 1) := by decide +kernel
theorem dX12_otherGoal_197 : decode cX12_otherGoal 197 = .ok (.iload_n 1, 1) := by decide +kernel
theorem dX12_otherGoal_198 : decode cX12_otherGoal 198 = .ok (.imul, 1) := by decide +kernel
theorem dX12_otherGoal_199 : decode cX12_otherGoal 199 = .ok (.iconst 2, 1) := by decide +kernel
theorem dX12_otherGoal_200 : decode cX12_otherGoal 200 = .ok (.iadd, 1) := by decide +kernel
theorem dX12_otherGoal_201 : decode cX12_otherGoal 201 = .ok (.invokevirtual 278, 3) := by decide +kernel
theorem dX12_otherGoal_204 : decode cX12_otherGoal 204 = .ok (.ifCond .ne 5, 3) := by decide +kernel
theorem dX12_otherGoal_207 : decode cX12_otherGoal 207 = .ok (.iconst 0, 1) := by decide +kernel
theorem dX12_otherGoal_208 : decode cX12_otherGoal 208 = .ok (.ireturn, 1) := by decide +kernel
theorem dX12_otherGoal_209 : decode cX12_otherGoal 209 = .ok (.aload_n 0, 1) := by decide +kernel
theorem dX12_otherGoal_210 : decode cX12_otherGoal 210 = .ok (.getfield 115, 3) := by decide +kernel
theorem dX12_otherGoal_213 : decode cX12_otherGoal 213 = .ok (.iload_n 1, 1) := by decide +kernel
theorem dX12_otherGoal_214 : decode cX12_otherGoal 214 = .ok (.iconst 1, 1) := by decide +kernel
theorem dX12_otherGoal_215 : decode cX12_otherGoal 215 = .ok (.iadd, 1) := by decide +kernel
theorem dX12_otherGoal_216 : decode cX12_otherGoal 216 = .ok (.dup2, 1) := by decide +kernel
theorem dX12_otherGoal_217 : decode cX12_otherGoal 217 = .ok (.iaload, 1) := by decide +kernel
theorem dX12_otherGoal_218 : decode cX12_otherGoal 218 = .ok (.iconst 1, 1) := by decide +kernel
theorem dX12_otherGoal_219 : decode cX12_otherGoal 219 = .ok (.aload_n 0, 1) := by decide +kernel
theorem dX12_otherGoal_220 : decode cX12_otherGoal 220 = .ok (.getfield 112, 3) := by decide +kernel
theorem dX12_otherGoal_223 : decode cX12_otherGoal 223 = .ok (.iconst 5, 1) := by decide +kernel
theorem dX12_otherGoal_224 : decode cX12_otherGoal 224 = .ok (.iload_n 1, 1) := by decide +kernel
theorem dX12_otherGoal_225 : decode cX12_otherGoal 225 = .ok (.imul, 1) := by decide +kernel
theorem dX12_otherGoal_226 : decode cX12_otherGoal 226 = .ok (.iaload, 1) := by decide +kernel
theorem dX12_otherGoal_227 : decode cX12_otherGoal 227 = .ok (.ishl, 1) := by decide +kernel
theorem dX12_otherGoal_228 : decode cX12_otherGoal 228 = .ok (.ior, 1) := by decide +kernel
theorem dX12_otherGoal_229 : decode cX12_otherGoal 229 = .ok (.iastore, 1) := by decide +kernel
theorem dX12_otherGoal_230 : decode cX12_otherGoal 230 = .ok (.iconst 1, 1) := by decide +kernel
theorem dX12_otherGoal_231 : decode cX12_otherGoal 231 = .ok (.ireturn, 1) := by decide +kernel
theorem dX12_otherGoal_232 : decode cX12_otherGoal 232 = .ok (.iload_n 3, 1) := by decide +kernel
theorem dX12_otherGoal_233 : decode cX12_otherGoal 233 = .ok (.bipush 60, 2) := by decide +kernel
theorem dX12_otherGoal_235 : decode cX12_otherGoal 235 = .ok (.if_icmp .eq 24, 3) := by decide +kernel
theorem dX12_otherGoal_238 : decode cX12_otherGoal 238 = .ok (.iload_n 3, 1) := by decide +kernel
theorem dX12_otherGoal_239 : decode cX12_otherGoal 239 = .ok (.bipush 61, 2) := by decide +kernel
theorem dX12_otherGoal_241 : decode cX12_otherGoal 241 = .ok (.if_icmp .eq 18, 3) := by decide +kernel
theorem dX12_otherGoal_244 : decode cX12_otherGoal 244 = .ok (.iload_n 3, 1) := by decide +kernel
theorem dX12_otherGoal_245 : decode cX12_otherGoal 245 = .ok (.bipush 35, 2) := by decide +kernel
theorem dX12_otherGoal_247 : decode cX12_otherGoal 247 = .ok (.if_icmp .eq 12, 3) := by decide +kernel
theorem dX12_otherGoal_250 : decode cX12_otherGoal 250 = .ok (.aload_n 0, 1) := by decide +kernel
theorem dX12_otherGoal_251 : decode cX12_otherGoal 251 = .ok (.aload_n 0, 1) := by decide +kernel
theorem dX12_otherGoal_252 : decode cX12_otherGoal 252 = .ok (.getfield 244, 3) := by decide +kernel
theorem dX12_otherGoal_255 : decode cX12_otherGoal 255 = .ok (.invokevirtual 266, 3) := by decide +kernel
theorem dX12_otherGoal_258 : decode cX12_otherGoal 258 = .ok (.ireturn, 1) := by decide +kernel
theorem dX12_otherGoal_259 : decode cX12_otherGoal 259 = .ok (.aload_n 0, 1) := by decide +kernel
theorem dX12_otherGoal_260 : decode cX12_otherGoal 260 = .ok (.iload_n 1, 1) := by decide +kernel
theorem dX12_otherGoal_261 : decode cX12_otherGoal 261 = .ok (.iconst 5, 1) := by decide +kernel
theorem dX12_otherGoal_262 : decode cX12_otherGoal 262 = .ok (.iload_n 1, 1) := by decide +kernel
theorem dX12_otherGoal_263 : decode cX12_otherGoal 263 = .ok (.imul, 1) := by decide +kernel
theorem dX12_otherGoal_264 : decode cX12_otherGoal 264 = .ok (.invokevirtual 275, 3) := by decide +kernel
theorem dX12_otherGoal_267 : decode cX12_otherGoal 267 = .ok (.ifCond .ne 9, 3) := by decide +kernel
theorem dX12_otherGoal_270 : decode cX12_otherGoal 270 = .ok (.aload_n 0, 1) := by decide +kernel
theorem dX12_otherGoal_271 : decode cX12_otherGoal 271 = .ok (.iload_n 2, 1) := by decide +kernel
theorem dX12_otherGoal_272 : decode cX12_otherGoal 272 = .ok (.invokevirtual 266, 3) := by decide +kernel
theorem dX12_otherGoal_275 : decode cX12_otherGoal 275 = .ok (.ireturn, 1) := by decide +kernel
theorem dX12_otherGoal_276 : decode cX12_otherGoal 276 = .ok (.aload_n 0, 1) := by decide +kernel
theorem dX12_otherGoal_277 : decode cX12_otherGoal 277 = .ok (.getfield 103, 3) := by decide +kernel
theorem dX12_otherGoal_280 : decode cX12_otherGoal 280 = .ok (.iload_n 1, 1) := by decide +kernel
theorem dX12_otherGoal_281 : decode cX12_otherGoal 281 = .ok (.iload_n 3, 1) := by decide +kernel
theorem dX12_otherGoal_282 : decode cX12_otherGoal 282 = .ok (.bipush 60, 2) := by decide +kernel
theorem dX12_otherGoal_284 : decode cX12_otherGoal 284 = .ok (.if_icmp .ne 7, 3) := by decide +kernel
theorem dX12_otherGoal_287 : decode cX12_otherGoal 287 = .ok (.iconst 2, 1) := by decide +kernel
theorem dX12_otherGoal_288 : decode cX12_otherGoal 288 = .ok (.goto 14, 3) := by decide +kernel
theorem dX12_otherGoal_291 : decode cX12_otherGoal 291 = .ok (.iload_n 3, 1) := by decide +kernel
theorem dX12_otherGoal_292 : decode cX12_otherGoal 292 = .ok (.bipush 61, 2) := by decide +kernel
theorem dX12_otherGoal_294 : decode cX12_otherGoal 294 = .ok (.if_icmp .ne 7, 3) := by decide +kernel
theorem dX12_otherGoal_297 : decode cX12_otherGoal 297 = .ok (.iconst 3, 1) := by decide +kernel
theorem dX12_otherGoal_298 : decode cX12_otherGoal 298 = .ok (.goto 4, 3) := by decide +kernel
theorem dX12_otherGoal_301 : decode cX12_otherGoal 301 = .ok (.iconst 4, 1) := by decide +kernel
theorem dX12_otherGoal_302 : decode cX12_otherGoal 302 = .ok (.iastore, 1) := by decide +kernel
theorem dX12_otherGoal_303 : decode cX12_otherGoal 303 = .ok (.aload_n 0, 1) := by decide +kernel
theorem dX12_otherGoal_304 : decode cX12_otherGoal 304 = .ok (.dup, 1) := by decide +kernel
theorem dX12_otherGoal_305 : decode cX12_otherGoal 305 = .ok (.getfield 244, 3) := by decide +kernel
theorem dX12_otherGoal_308 : decode cX12_otherGoal 308 = .ok (.iconst 1, 1) := by decide +kernel
theorem dX12_otherGoal_309 : decode cX12_otherGoal 309 = .ok (.iadd, 1) := by decide +kernel
theorem dX12_otherGoal_310 : decode cX12_otherGoal 310 = .ok (.putfield 244, 3) := by decide +kernel
theorem dX12_otherGoal_313 : decode cX12_otherGoal 313 = .ok (.aload_n 0, 1) := by decide +kernel
theorem dX12_otherGoal_314 : decode cX12_otherGoal 314 = .ok (.iload_n 1, 1) := by decide +kernel
theorem dX12_otherGoal_315 : decode cX12_otherGoal 315 = .ok (.iconst 5, 1) := by decide +kernel
theorem dX12_otherGoal_316 : decode cX12_otherGoal 316 = .ok (.iload_n 1, 1) := by decide +kernel
theorem dX12_otherGoal_317 : decode cX12_otherGoal 317 = .ok (.imul, 1) := by decide +kernel
theorem dX12_otherGoal_318 : decode cX12_otherGoal 318 = .ok (.iconst 1, 1) := by decide +kernel
theorem dX12_otherGoal_319 : decode cX12_otherGoal 319 = .ok (.iadd, 1) := by decide +kernel
theorem dX12_otherGoal_320 : decode cX12_otherGoal 320 = .ok (.invokevirtual 278, 3) := by decide +kernel
theorem dX12_otherGoal_323 : decode cX12_otherGoal 323 = .ok (.ireturn, 1) := by decide +kernel
set_option maxRecDepth 20000 in
theorem ggX12_isQuestion_X12_blanks : GoodIn wsX12_isQuestion wsX12_blanks := goodIn_r _ [10, 2, 11, 12, 13, 9, 14, 1, 15, 67, 68, 69, 70, 71, 72, 73, 74, 75, 76, 77, 78, 79, 80, 81, 82, 83, 84, 85, 86, 87, 88, 89, 90, 91, 92, 93, 94, 95, 96, 97, 98, 99, 100, 101, 102, 103, 104, 105, 106, 107, 108, 109, 110, 111, 112, 113, 114, 115, 116, 117, 118, 119, 120, 121, 122, 123] (by decide +kernel) (by decide +kernel)
set_option maxRecDepth 20000 in
theorem gX12_isQuestion_X12_blanks : GoodIn wsX12_isQuestion (wsV RX12 250 RX12 yX12_blanks wsX12_blanks) := goodIn_app (goodIn_of _ (by decide +kernel)) ggX12_isQuestion_X12_blanks
set_option maxRecDepth 20000 in
theorem ggX12_isQuestion_X12_wrong : GoodIn wsX12_isQuestion wsX12_wrong := goodIn_r _ [19, 1, 20, 67, 68, 69, 70, 71, 72, 73, 74, 75, 76, 77, 78, 79, 80, 81, 82, 83, 84, 85, 86, 87, 88, 89, 90, 91, 92, 93, 94, 95, 96, 97, 98, 99, 100, 101, 102, 103, 104, 105, 106, 107, 108, 109, 110, 111, 112, 113, 114, 115, 116, 117, 118, 119, 120, 121, 122, 123] (by decide +kernel) (by decide +kernel)
set_option maxRecDepth 20000 in
theorem gX12_isQuestion_X12_wrong : GoodIn wsX12_isQuestion (wsV RX12 266 RX12 yX12_wrong wsX12_wrong) := goodIn_app (goodIn_of _ (by decide +kernel)) ggX12_isQuestion_X12_wrong
set_option maxRecDepth 20000 in
theorem ggX12_isQuestion_X12_byteAt : GoodIn wsX12_isQuestion wsX12_byteAt := goodIn_r _ [14, 1, 15, 67, 68, 69, 70, 71, 72, 73, 74, 75, 76, 77, 78, 79, 80, 81, 82, 83, 84, 85, 86, 87, 88, 89, 90, 91, 92, 93, 94, 95, 96, 97, 98, 99, 100, 101, 102, 103, 104, 105, 106, 107, 108, 109, 110, 111, 112, 113, 114, 115, 116, 117, 118, 119, 120, 121, 122, 123] (by decide +kernel) (by decide +kernel)
set_option maxRecDepth 20000 in
theorem gX12_isQuestion_X12_byteAt : GoodIn wsX12_isQuestion (wsV RX12 247 RX12 yX12_byteAt wsX12_byteAt) := goodIn_app (goodIn_of _ (by decide +kernel)) ggX12_isQuestion_X12_byteAt
set_option maxRecDepth 20000 in
theorem ggX12_isQuestion_X12_otherGoal : GoodIn wsX12_isQuestion wsX12_otherGoal := goodIn_r _ [58, 2, 4, 28, 5, 29, 51, 52, 53, 9, 54, 26, 6, 7, 8, 10, 11, 12, 13, 14, 1, 15, 34, 35, 36, 37, 38, 39, 40, 41, 30, 31, 32, 33, 16, 17, 18, 19, 20, 59, 60, 61, 62, 63, 64, 65, 66, 67, 68, 69, 70, 71, 72, 73, 74, 75, 76, 77, 78, 79, 80, 81, 82, 83, 84, 85, 86, 87, 88, 89, 90, 91, 92, 93, 94, 95, 96, 97, 98, 99, 100, 101, 102, 103, 104, 105, 106, 107, 108, 109, 110, 111, 112, 113, 114, 115, 116, 117, 118, 119, 120, 121, 122, 123] (by decide +kernel) (by decide +kernel)
set_option maxRecDepth 20000 in
theorem gX12_isQuestion_X12_otherGoal : GoodIn wsX12_isQuestion (wsV RX12 287 RX12 yX12_otherGoal wsX12_otherGoal) := goodIn_app (goodIn_of _ (by decide +kernel)) ggX12_isQuestion_X12_otherGoal
theorem dX12_isQuestion_0 : decode cX12_isQuestion 0 = .ok (.aload_n 0, 1) := by decide +kernel
theorem dX12_isQuestion_1 : decode cX12_isQuestion 1 = .ok (.iload_n 1, 1) := by decide +kernel
theorem dX12_isQuestion_2 : decode cX12_isQuestion 2 = .ok (.putfield 241, 3) := by decide +kernel
theorem dX12_isQuestion_5 : decode cX12_isQuestion 5 = .ok (.aload_n 0, 1) := by decide +kernel
theorem dX12_isQuestion_6 : decode cX12_isQuestion 6 = .ok (.iconst 0, 1) := by decide +kernel
theorem dX12_isQuestion_7 : decode cX12_isQuestion 7 = .ok (.putfield 244, 3) := by decide +kernel
theorem dX12_isQuestion_10 : decode cX12_isQuestion 10 = .ok (.aload_n 0, 1) := by decide +kernel
theorem dX12_isQuestion_11 : decode cX12_isQuestion 11 = .ok (.iconst 0, 1) := by decide +kernel
theorem dX12_isQuestion_12 : decode cX12_isQuestion 12 = .ok (.putfield 281, 3) := by decide +kernel
theorem dX12_isQuestion_15 : decode cX12_isQuestion 15 = .ok (.aload_n 0, 1) := by decide +kernel
theorem dX12_isQuestion_16 : decode cX12_isQuestion 16 = .ok (.getfield 115, 3) := by decide +kernel
theorem dX12_isQuestion_19 : decode cX12_isQuestion 19 = .ok (.iconst 0, 1) := by decide +kernel
theorem dX12_isQuestion_20 : decode cX12_isQuestion 20 = .ok (.iconst 0, 1) := by decide +kernel
theorem dX12_isQuestion_21 : decode cX12_isQuestion 21 = .ok (.iastore, 1) := by decide +kernel
theorem dX12_isQuestion_22 : decode cX12_isQuestion 22 = .ok (.iconst 1, 1) := by decide +kernel
theorem dX12_isQuestion_23 : decode cX12_isQuestion 23 = .ok (.istore_n 2, 1) := by decide +kernel
theorem dX12_isQuestion_24 : decode cX12_isQuestion 24 = .ok (.iload_n 2, 1) := by decide +kernel
theorem dX12_isQuestion_25 : decode cX12_isQuestion 25 = .ok (.ifCond .eq 168, 3) := by decide +kernel
theorem dX12_isQuestion_28 : decode cX12_isQuestion 28 = .ok (.aload_n 0, 1) := by decide +kernel
theorem dX12_isQuestion_29 : decode cX12_isQuestion 29 = .ok (.invokevirtual 250, 3) := by decide +kernel
theorem dX12_isQuestion_32 : decode cX12_isQuestion 32 = .ok (.aload_n 0, 1) := by decide +kernel
theorem dX12_isQuestion_33 : decode cX12_isQuestion 33 = .ok (.getfield 281, 3) := by decide +kernel
theorem dX12_isQuestion_36 : decode cX12_isQuestion 36 = .ok (.bipush 10, 2) := by decide +kernel
theorem dX12_isQuestion_38 : decode cX12_isQuestion 38 = .ok (.if_icmp .ne 12, 3) := by decide +kernel
theorem dX12_isQuestion_41 : decode cX12_isQuestion 41 = .ok (.aload_n 0, 1) := by decide +kernel
theorem dX12_isQuestion_42 : decode cX12_isQuestion 42 = .ok (.aload_n 0, 1) := by decide +kernel
theorem dX12_isQuestion_43 : decode cX12_isQuestion 43 = .ok (.getfield 244, 3) := by decide +kernel
theorem dX12_isQuestion_46 : decode cX12_isQuestion 46 = .ok (.invokevirtual 266, 3) := by decide +kernel
theorem dX12_isQuestion_49 : decode cX12_isQuestion 49 = .ok (.ireturn, 1) := by decide +kernel
theorem dX12_isQuestion_50 : decode cX12_isQuestion 50 = .ok (.aload_n 0, 1) := by decide +kernel
theorem dX12_isQuestion_51 : decode cX12_isQuestion 51 = .ok (.getfield 103, 3) := by decide +kernel
theorem dX12_isQuestion_54 : decode cX12_isQuestion 54 = .ok (.aload_n 0, 1) := by decide +kernel
theorem dX12_isQuestion_55 : decode cX12_isQuestion 55 = .ok (.getfield 281, 3) := by decide +kernel
theorem dX12_isQuestion_58 : decode cX12_isQuestion 58 = .ok (.iconst 0, 1) := by decide +kernel
theorem dX12_isQuestion_59 : decode cX12_isQuestion 59 = .ok (.iastore, 1) := by decide +kernel
theorem dX12_isQuestion_60 : decode cX12_isQuestion 60 = .ok (.aload_n 0, 1) := by decide +kernel
theorem dX12_isQuestion_61 : decode cX12_isQuestion 61 = .ok (.aload_n 0, 1) := by decide +kernel
theorem dX12_isQuestion_62 : decode cX12_isQuestion 62 = .ok (.getfield 244, 3) := by decide +kernel
theorem dX12_isQuestion_65 : decode cX12_isQuestion 65 = .ok (.invokevirtual 247, 3) := by decide +kernel
theorem dX12_isQuestion_68 : decode cX12_isQuestion 68 = .ok (.bipush 116, 2) := by decide +kernel
theorem dX12_isQuestion_70 : decode cX12_isQuestion 70 = .ok (.if_icmp .ne 15, 3) := by decide +kernel
theorem dX12_isQuestion_73 : decode cX12_isQuestion 73 = .ok (.aload_n 0, 1) := by decide +kernel
theorem dX12_isQuestion_74 : decode cX12_isQuestion 74 = .ok (.aload_n 0, 1) := by decide +kernel
theorem dX12_isQuestion_75 : decode cX12_isQuestion 75 = .ok (.getfield 281, 3) := by decide +kernel
theorem dX12_isQuestion_78 : decode cX12_isQuestion 78 = .ok (.invokevirtual 284, 3) := by decide +kernel
theorem dX12_isQuestion_81 : decode cX12_isQuestion 81 = .ok (.istore_n 3, 1) := by decide +kernel
theorem dX12_isQuestion_82 : decode cX12_isQuestion 82 = .ok (.goto 85, 3) := by decide +kernel
theorem dX12_isQuestion_85 : decode cX12_isQuestion 85 = .ok (.aload_n 0, 1) := by decide +kernel
theorem dX12_isQuestion_86 : decode cX12_isQuestion 86 = .ok (.aload_n 0, 1) := by decide +kernel
theorem dX12_isQuestion_87 : decode cX12_isQuestion 87 = .ok (.getfield 244, 3) := by decide +kernel
theorem dX12_isQuestion_90 : decode cX12_isQuestion 90 = .ok (.invokevirtual 247, 3) := by decide +kernel
theorem dX12_isQuestion_93 : decode cX12_isQuestion 93 = .ok (.bipush 33, 2) := by decide +kernel
theorem dX12_isQuestion_95 : decode cX12_isQuestion 95 = .ok (.if_icmp .ne 63, 3) := by decide +kernel
theorem dX12_isQuestion_98 : decode cX12_isQuestion 98 = .ok (.aload_n 0, 1) := by decide +kernel
theorem dX12_isQuestion_99 : decode cX12_isQuestion 99 = .ok (.dup, 1) := by decide +kernel
theorem dX12_isQuestion_100 : decode cX12_isQuestion 100 = .ok (.getfield 244, 3) := by decide +kernel
theorem dX12_isQuestion_103 : decode cX12_isQuestion 103 = .ok (.iconst 1, 1) := by decide +kernel
theorem dX12_isQuestion_104 : decode cX12_isQuestion 104 = .ok (.iadd, 1) := by decide +kernel
theorem dX12_isQuestion_105 : decode cX12_isQuestion 105 = .ok (.putfield 244, 3) := by decide +kernel
theorem dX12_isQuestion_108 : decode cX12_isQuestion 108 = .ok (.aload_n 0, 1) := by decide +kernel
theorem dX12_isQuestion_109 : decode cX12_isQuestion 109 = .ok (.invokevirtual 250, 3) := by decide +kernel
theorem dX12_isQuestion_112 : decode cX12_isQuestion 112 = .ok (.aload_n 0, 1) := by decide +kernel
theorem dX12_isQuestion_113 : decode cX12_isQuestion 113 = .ok (.getfield 103, 3) := by decide +kernel
theorem dX12_isQuestion_116 : decode cX12_isQuestion 116 = .ok (.aload_n 0, 1) := by decide +kernel
theorem dX12_isQuestion_117 : decode cX12_isQuestion 117 = .ok (.getfield 281, 3) := by decide +kernel
theorem dX12_isQuestion_120 : decode cX12_isQuestion 120 = .ok (.iconst 1, 1) := by decide +kernel
theorem dX12_isQuestion_121 : decode cX12_isQuestion 121 = .ok (.iastore, 1) := by decide +kernel
theorem dX12_isQuestion_122 : decode cX12_isQuestion 122 = .ok (.aload_n 0, 1) := by decide +kernel
theorem dX12_isQuestion_123 : decode cX12_isQuestion 123 = .ok (.aload_n 0, 1) := by decide +kernel
theorem dX12_isQuestion_124 : decode cX12_isQuestion 124 = .ok (.getfield 244, 3) := by decide +kernel
theorem dX12_isQuestion_127 : decode cX12_isQuestion 127 = .ok (.invokevirtual 247, 3) := by decide +kernel
theorem dX12_isQuestion_130 : decode cX12_isQuestion 130 = .ok (.bipush 116, 2) := by decide +kernel
theorem dX12_isQuestion_132 : decode cX12_isQuestion 132 = .ok (.if_icmp .ne 14, 3) := by decide +kernel
theorem dX12_isQuestion_135 : decode cX12_isQuestion 135 = .ok (.aload_n 0, 1) := by decide +kernel
theorem dX12_isQuestion_136 : decode cX12_isQuestion 136 = .ok (.aload_n 0, 1) := by decide +kernel
theorem dX12_isQuestion_137 : decode cX12_isQuestion 137 = .ok (.getfield 281, 3) := by decide +kernel
theorem dX12_isQuestion_140 : decode cX12_isQuestion 140 = .ok (.invokevirtual 284, 3) := by decide +kernel
theorem dX12_isQuestion_143 : decode cX12_isQuestion 143 = .ok (.goto 11, 3) := by decide +kernel
theorem dX12_isQuestion_146 : decode cX12_isQuestion 146 = .ok (.aload_n 0, 1) := by decide +kernel
theorem dX12_isQuestion_147 : decode cX12_isQuestion 147 = .ok (.aload_n 0, 1) := by decide +kernel
theorem dX12_isQuestion_148 : decode cX12_isQuestion 148 = .ok (.getfield 244, 3) := by decide +kernel
theorem dX12_isQuestion_151 : decode cX12_isQuestion 151 = .ok (.invokevirtual 266, 3) := by decide +kernel
theorem dX12_isQuestion_154 : decode cX12_isQuestion 154 = .ok (.istore_n 3, 1) := by decide +kernel
theorem dX12_isQuestion_155 : decode cX12_isQuestion 155 = .ok (.goto 12, 3) := by decide +kernel
theorem dX12_isQuestion_158 : decode cX12_isQuestion 158 = .ok (.aload_n 0, 1) := by decide +kernel
theorem dX12_isQuestion_159 : decode cX12_isQuestion 159 = .ok (.aload_n 0, 1) := by decide +kernel
theorem dX12_isQuestion_160 : decode cX12_isQuestion 160 = .ok (.getfield 281, 3) := by decide +kernel
theorem dX12_isQuestion_163 : decode cX12_isQuestion 163 = .ok (.invokevirtual 287, 3) := by decide +kernel
theorem dX12_isQuestion_166 : decode cX12_isQuestion 166 = .ok (.istore_n 3, 1) := by decide +kernel
theorem dX12_isQuestion_167 : decode cX12_isQuestion 167 = .ok (.iload_n 3, 1) := by decide +kernel
theorem dX12_isQuestion_168 : decode cX12_isQuestion 168 = .ok (.ifCond .ne 5, 3) := by decide +kernel
theorem dX12_isQuestion_171 : decode cX12_isQuestion 171 = .ok (.iconst 0, 1) := by decide +kernel
theorem dX12_isQuestion_172 : decode cX12_isQuestion 172 = .ok (.ireturn, 1) := by decide +kernel
theorem dX12_isQuestion_173 : decode cX12_isQuestion 173 = .ok (.aload_n 0, 1) := by decide +kernel
theorem dX12_isQuestion_174 : decode cX12_isQuestion 174 = .ok (.dup, 1) := by decide +kernel
theorem dX12_isQuestion_175 : decode cX12_isQuestion 175 = .ok (.getfield 281, 3) := by decide +kernel
theorem dX12_isQuestion_178 : decode cX12_isQuestion 178 = .ok (.iconst 1, 1) := by decide +kernel
theorem dX12_isQuestion_179 : decode cX12_isQuestion 179 = .ok (.iadd, 1) := by decide +kernel
theorem dX12_isQuestion_180 : decode cX12_isQuestion 180 = .ok (.putfield 281, 3) := by decide +kernel
theorem dX12_isQuestion_183 : decode cX12_isQuestion 183 = .ok (.aload_n 0, 1) := by decide +kernel
theorem dX12_isQuestion_184 : decode cX12_isQuestion 184 = .ok (.bipush 44, 2) := by decide +kernel
theorem dX12_isQuestion_186 : decode cX12_isQuestion 186 = .ok (.invokevirtual 269, 3) := by decide +kernel
theorem dX12_isQuestion_189 : decode cX12_isQuestion 189 = .ok (.istore_n 2, 1) := by decide +kernel
theorem dX12_isQuestion_190 : decode cX12_isQuestion 190 = .ok (.goto (-166), 3) := by decide +kernel
theorem dX12_isQuestion_193 : decode cX12_isQuestion 193 = .ok (.aload_n 0, 1) := by decide +kernel
theorem dX12_isQuestion_194 : decode cX12_isQuestion 194 = .ok (.invokevirtual 250, 3) := by decide +kernel
theorem dX12_isQuestion_197 : decode cX12_isQuestion 197 = .ok (.aload_n 0, 1) := by decide +kernel
theorem dX12_isQuestion_198 : decode cX12_isQuestion 198 = .ok (.getfield 244, 3) := by decide +kernel
theorem dX12_isQuestion_201 : decode cX12_isQuestion 201 = .ok (.aload_n 0, 1) := by decide +kernel
theorem dX12_isQuestion_202 : decode cX12_isQuestion 202 = .ok (.getfield 241, 3) := by decide +kernel
theorem dX12_isQuestion_205 : decode cX12_isQuestion 205 = .ok (.if_icmp .eq 14, 3) := by decide +kernel
theorem dX12_isQuestion_208 : decode cX12_isQuestion 208 = .ok (.aload_n 0, 1) := by decide +kernel
theorem dX12_isQuestion_209 : decode cX12_isQuestion 209 = .ok (.aload_n 0, 1) := by decide +kernel
theorem dX12_isQuestion_210 : decode cX12_isQuestion 210 = .ok (.getfield 244, 3) := by decide +kernel
theorem dX12_isQuestion_213 : decode cX12_isQuestion 213 = .ok (.invokevirtual 266, 3) := by decide +kernel
theorem dX12_isQuestion_216 : decode cX12_isQuestion 216 = .ok (.ifCond .eq 7, 3) := by decide +kernel
theorem dX12_isQuestion_219 : decode cX12_isQuestion 219 = .ok (.iconst 1, 1) := by decide +kernel
theorem dX12_isQuestion_220 : decode cX12_isQuestion 220 = .ok (.goto 4, 3) := by decide +kernel
theorem dX12_isQuestion_223 : decode cX12_isQuestion 223 = .ok (.iconst 0, 1) := by decide +kernel
theorem dX12_isQuestion_224 : decode cX12_isQuestion 224 = .ok (.ireturn, 1) := by decide +kernel
set_option maxRecDepth 20000 in
theorem ggX12_question_X12_isTime : GoodIn wsX12_question wsX12_isTime := goodIn_r _ [18, 19, 20, 145, 146, 147, 148, 149, 150, 151, 152, 153, 154, 155, 156, 157, 158, 159, 160, 161, 162, 163, 164, 165, 166, 167, 168, 169, 170, 171, 172, 173, 174, 175, 176, 177, 178, 179, 180, 181, 182, 183, 184, 185, 186, 187, 188, 189, 190, 191, 192, 193, 194, 195, 196, 197, 198, 199, 200, 201] (by decide +kernel) (by decide +kernel)
set_option maxRecDepth 20000 in
theorem gX12_question_X12_isTime : GoodIn wsX12_question (wsV RX12 217 RX12 yX12_isTime wsX12_isTime) := goodIn_app (goodIn_of _ (by decide +kernel)) ggX12_question_X12_isTime
set_option maxRecDepth 20000 in
theorem ggX12_question_X12_fails : GoodIn wsX12_question wsX12_fails := goodIn_r _ [24, 7, 145, 146, 147, 148, 149, 150, 151, 152, 153, 154, 155, 156, 157, 158, 159, 160, 161, 162, 163, 164, 165, 166, 167, 168, 169, 170, 171, 172, 173, 174, 175, 176, 177, 178, 179, 180, 181, 182, 183, 184, 185, 186, 187, 188, 189, 190, 191, 192, 193, 194, 195, 196, 197, 198, 199, 200, 201] (by decide +kernel) (by decide +kernel)
set_option maxRecDepth 20000 in
theorem gX12_question_X12_fails : GoodIn wsX12_question (wsV RX12 136 RX12 yX12_fails wsX12_fails) := goodIn_app (goodIn_of _ (by decide +kernel)) ggX12_question_X12_fails
set_option maxRecDepth 20000 in
theorem ggX12_question_X12_isQuestion : GoodIn wsX12_question wsX12_isQuestion := goodIn_r _ [28, 29, 30, 10, 9, 31, 32, 33, 34, 17, 35, 36, 37, 38, 39, 40, 41, 42, 43, 44, 2, 45, 46, 47, 48, 49, 50, 51, 52, 53, 54, 55, 56, 57, 58, 59, 60, 61, 62, 63, 64, 65, 66, 67, 68, 69, 70, 71, 72, 73, 74, 75, 76, 77, 78, 79, 80, 81, 82, 83, 84, 85, 86, 87, 88, 89, 90, 145, 146, 147, 148, 149, 150, 151, 152, 153, 154, 155, 156, 157, 158, 159, 160, 161, 162, 163, 164, 165, 166, 167, 168, 169, 170, 171, 172, 173, 174, 175, 176, 177, 178, 179, 180, 181, 182, 183, 184, 185, 186, 187, 188, 189, 190, 191, 192, 193, 194, 195, 196, 197, 198, 199, 200, 201] (by decide +kernel) (by decide +kernel)
set_option maxRecDepth 20000 in
theorem gX12_question_X12_isQuestion : GoodIn wsX12_question (wsV RX12 306 RX12 yX12_isQuestion wsX12_isQuestion) := goodIn_app (goodIn_of _ (by decide +kernel)) ggX12_question_X12_isQuestion
set_option maxRecDepth 20000 in
theorem ggX12_question_X12_timeOf : GoodIn wsX12_question wsX12_timeOf := goodIn_r _ [94, 20, 145, 146, 147, 148, 149, 150, 151, 152, 153, 154, 155, 156, 157, 158, 159, 160, 161, 162, 163, 164, 165, 166, 167, 168, 169, 170, 171, 172, 173, 174, 175, 176, 177, 178, 179, 180, 181, 182, 183, 184, 185, 186, 187, 188, 189, 190, 191, 192, 193, 194, 195, 196, 197, 198, 199, 200, 201] (by decide +kernel) (by decide +kernel)
set_option maxRecDepth 20000 in
theorem gX12_question_X12_timeOf : GoodIn wsX12_question (wsV RX12 220 RX12 yX12_timeOf wsX12_timeOf) := goodIn_app (goodIn_of _ (by decide +kernel)) ggX12_question_X12_timeOf
theorem dX12_question_0 : decode cX12_question 0 = .ok (.aload_n 0, 1) := by decide +kernel
theorem dX12_question_1 : decode cX12_question 1 = .ok (.getfield 133, 3) := by decide +kernel
theorem dX12_question_4 : decode cX12_question 4 = .ok (.istore_n 2, 1) := by decide +kernel
theorem dX12_question_5 : decode cX12_question 5 = .ok (.aload_n 0, 1) := by decide +kernel
theorem dX12_question_6 : decode cX12_question 6 = .ok (.iconst 0, 1) := by decide +kernel
theorem dX12_question_7 : decode cX12_question 7 = .ok (.putfield 133, 3) := by decide +kernel
theorem dX12_question_10 : decode cX12_question 10 = .ok (.aload_n 0, 1) := by decide +kernel
theorem dX12_question_11 : decode cX12_question 11 = .ok (.iconst (-1), 1) := by decide +kernel
theorem dX12_question_12 : decode cX12_question 12 = .ok (.putfield 100, 3) := by decide +kernel
theorem dX12_question_15 : decode cX12_question 15 = .ok (.aload_n 0, 1) := by decide +kernel
theorem dX12_question_16 : decode cX12_question 16 = .ok (.aload_n 0, 1) := by decide +kernel
theorem dX12_question_17 : decode cX12_question 17 = .ok (.iload_n 1, 1) := by decide +kernel
theorem dX12_question_18 : decode cX12_question 18 = .ok (.invokevirtual 217, 3) := by decide +kernel
theorem dX12_question_21 : decode cX12_question 21 = .ok (.ifCond .ne 7, 3) := by decide +kernel
theorem dX12_question_24 : decode cX12_question 24 = .ok (.iconst 1, 1) := by decide +kernel
theorem dX12_question_25 : decode cX12_question 25 = .ok (.goto 4, 3) := by decide +kernel
theorem dX12_question_28 : decode cX12_question 28 = .ok (.iconst 0, 1) := by decide +kernel
theorem dX12_question_29 : decode cX12_question 29 = .ok (.invokevirtual 136, 3) := by decide +kernel
theorem dX12_question_32 : decode cX12_question 32 = .ok (.ifCond .eq 5, 3) := by decide +kernel
theorem dX12_question_35 : decode cX12_question 35 = .ok (.iconst 0, 1) := by decide +kernel
theorem dX12_question_36 : decode cX12_question 36 = .ok (.ireturn, 1) := by decide +kernel
theorem dX12_question_37 : decode cX12_question 37 = .ok (.aload_n 0, 1) := by decide +kernel
theorem dX12_question_38 : decode cX12_question 38 = .ok (.aload_n 0, 1) := by decide +kernel
theorem dX12_question_39 : decode cX12_question 39 = .ok (.iload_n 2, 1) := by decide +kernel
theorem dX12_question_40 : decode cX12_question 40 = .ok (.invokevirtual 306, 3) := by decide +kernel
theorem dX12_question_43 : decode cX12_question 43 = .ok (.ifCond .ne 7, 3) := by decide +kernel
theorem dX12_question_46 : decode cX12_question 46 = .ok (.iconst 2, 1) := by decide +kernel
theorem dX12_question_47 : decode cX12_question 47 = .ok (.goto 4, 3) := by decide +kernel
theorem dX12_question_50 : decode cX12_question 50 = .ok (.iconst 0, 1) := by decide +kernel
theorem dX12_question_51 : decode cX12_question 51 = .ok (.invokevirtual 136, 3) := by decide +kernel
theorem dX12_question_54 : decode cX12_question 54 = .ok (.ifCond .eq 5, 3) := by decide +kernel
theorem dX12_question_57 : decode cX12_question 57 = .ok (.iconst 0, 1) := by decide +kernel
theorem dX12_question_58 : decode cX12_question 58 = .ok (.ireturn, 1) := by decide +kernel
theorem dX12_question_59 : decode cX12_question 59 = .ok (.aload_n 0, 1) := by decide +kernel
theorem dX12_question_60 : decode cX12_question 60 = .ok (.iconst 0, 1) := by decide +kernel
theorem dX12_question_61 : decode cX12_question 61 = .ok (.putfield 168, 3) := by decide +kernel
theorem dX12_question_64 : decode cX12_question 64 = .ok (.aload_n 0, 1) := by decide +kernel
theorem dX12_question_65 : decode cX12_question 65 = .ok (.iconst 1, 1) := by decide +kernel
theorem dX12_question_66 : decode cX12_question 66 = .ok (.putfield 176, 3) := by decide +kernel
theorem dX12_question_69 : decode cX12_question 69 = .ok (.aload_n 0, 1) := by decide +kernel
theorem dX12_question_70 : decode cX12_question 70 = .ok (.aload_n 0, 1) := by decide +kernel
theorem dX12_question_71 : decode cX12_question 71 = .ok (.iload_n 1, 1) := by decide +kernel
theorem dX12_question_72 : decode cX12_question 72 = .ok (.invokevirtual 220, 3) := by decide +kernel
theorem dX12_question_75 : decode cX12_question 75 = .ok (.invokevirtual 309, 3) := by decide +kernel
theorem dX12_question_78 : decode cX12_question 78 = .ok (.istore_n 3, 1) := by decide +kernel
theorem dX12_question_79 : decode cX12_question 79 = .ok (.aload_n 0, 1) := by decide +kernel
theorem dX12_question_80 : decode cX12_question 80 = .ok (.iconst 0, 1) := by decide +kernel
theorem dX12_question_81 : decode cX12_question 81 = .ok (.putfield 176, 3) := by decide +kernel
theorem dX12_question_84 : decode cX12_question 84 = .ok (.aload_n 0, 1) := by decide +kernel
theorem dX12_question_85 : decode cX12_question 85 = .ok (.getfield 168, 3) := by decide +kernel
theorem dX12_question_88 : decode cX12_question 88 = .ok (.ldc 175, 2) := by decide +kernel
theorem dX12_question_90 : decode cX12_question 90 = .ok (.if_icmp .le 17, 3) := by decide +kernel
theorem dX12_question_93 : decode cX12_question 93 = .ok (.aload_n 0, 1) := by decide +kernel
theorem dX12_question_94 : decode cX12_question 94 = .ok (.ldc_w 312, 3) := by decide +kernel
theorem dX12_question_97 : decode cX12_question 97 = .ok (.putfield 168, 3) := by decide +kernel
theorem dX12_question_100 : decode cX12_question 100 = .ok (.aload_n 0, 1) := by decide +kernel
theorem dX12_question_101 : decode cX12_question 101 = .ok (.iconst 3, 1) := by decide +kernel
theorem dX12_question_102 : decode cX12_question 102 = .ok (.putfield 1, 3) := by decide +kernel
theorem dX12_question_105 : decode cX12_question 105 = .ok (.iconst 0, 1) := by decide +kernel
theorem dX12_question_106 : decode cX12_question 106 = .ok (.ireturn, 1) := by decide +kernel
theorem dX12_question_107 : decode cX12_question 107 = .ok (.aload_n 0, 1) := by decide +kernel
theorem dX12_question_108 : decode cX12_question 108 = .ok (.iload_n 3, 1) := by decide +kernel
theorem dX12_question_109 : decode cX12_question 109 = .ok (.putfield 313, 3) := by decide +kernel
theorem dX12_question_112 : decode cX12_question 112 = .ok (.aload_n 0, 1) := by decide +kernel
theorem dX12_question_113 : decode cX12_question 113 = .ok (.aload_n 0, 1) := by decide +kernel
theorem dX12_question_114 : decode cX12_question 114 = .ok (.getfield 115, 3) := by decide +kernel
theorem dX12_question_117 : decode cX12_question 117 = .ok (.aload_n 0, 1) := by decide +kernel
theorem dX12_question_118 : decode cX12_question 118 = .ok (.getfield 281, 3) := by decide +kernel
theorem dX12_question_121 : decode cX12_question 121 = .ok (.iaload, 1) := by decide +kernel
theorem dX12_question_122 : decode cX12_question 122 = .ok (.putfield 316, 3) := by decide +kernel
theorem dX12_question_125 : decode cX12_question 125 = .ok (.iconst 0, 1) := by decide +kernel
theorem dX12_question_126 : decode cX12_question 126 = .ok (.istore 4, 2) := by decide +kernel
theorem dX12_question_128 : decode cX12_question 128 = .ok (.iload 4, 2) := by decide +kernel
theorem dX12_question_130 : decode cX12_question 130 = .ok (.sipush 800, 3) := by decide +kernel
theorem dX12_question_133 : decode cX12_question 133 = .ok (.if_icmp .ge 23, 3) := by decide +kernel
theorem dX12_question_136 : decode cX12_question 136 = .ok (.aload_n 0, 1) := by decide +kernel
theorem dX12_question_137 : decode cX12_question 137 = .ok (.getfield 127, 3) := by decide +kernel
theorem dX12_question_140 : decode cX12_question 140 = .ok (.iload 4, 2) := by decide +kernel
theorem dX12_question_142 : decode cX12_question 142 = .ok (.aload_n 0, 1) := by decide +kernel
theorem dX12_question_143 : decode cX12_question 143 = .ok (.getfield 130, 3) := by decide +kernel
theorem dX12_question_146 : decode cX12_question 146 = .ok (.iload 4, 2) := by decide +kernel
theorem dX12_question_148 : decode cX12_question 148 = .ok (.iaload, 1) := by decide +kernel
theorem dX12_question_149 : decode cX12_question 149 = .ok (.iastore, 1) := by decide +kernel
theorem dX12_question_150 : decode cX12_question 150 = .ok (.iinc 4 1, 3) := by decide +kernel
theorem dX12_question_153 : decode cX12_question 153 = .ok (.goto (-25), 3) := by decide +kernel
theorem dX12_question_156 : decode cX12_question 156 = .ok (.iload_n 3, 1) := by decide +kernel
theorem dX12_question_157 : decode cX12_question 157 = .ok (.ireturn, 1) := by decide +kernel
set_option maxRecDepth 20000 in
theorem ggX12_solution_X12_fails : GoodIn wsX12_solution wsX12_fails := goodIn_r _ [8, 9, 10, 11, 12, 13, 14, 15, 16, 17, 18, 19, 20, 21, 22, 23, 24, 25, 26, 27, 28, 29, 30, 31, 32, 33, 34, 35, 36, 37, 38, 39, 40, 41, 42, 43, 44, 45, 46, 47, 48, 49, 50, 51, 52, 53, 54, 55, 56, 57, 58, 59, 60, 61, 62, 63, 64, 65, 66] (by decide +kernel) (by decide +kernel)
set_option maxRecDepth 20000 in
theorem gX12_solution_X12_fails : GoodIn wsX12_solution (wsV RX12 136 RX12 yX12_fails wsX12_fails) := goodIn_app (goodIn_of _ (by decide +kernel)) ggX12_solution_X12_fails
theorem dX12_solution_0 : decode cX12_solution 0 = .ok (.aload_n 0, 1) := by decide +kernel
theorem dX12_solution_1 : decode cX12_solution 1 = .ok (.iload_n 2, 1) := by decide +kernel
theorem dX12_solution_2 : decode cX12_solution 2 = .ok (.ifCond .lt 9, 3) := by decide +kernel
theorem dX12_solution_5 : decode cX12_solution 5 = .ok (.iload_n 2, 1) := by decide +kernel
theorem dX12_solution_6 : decode cX12_solution 6 = .ok (.bipush 7, 2) := by decide +kernel
theorem dX12_solution_8 : decode cX12_solution 8 = .ok (.if_icmp .le 7, 3) := by decide +kernel
theorem dX12_solution_11 : decode cX12_solution 11 = .ok (.iconst 1, 1) := by decide +kernel
theorem dX12_solution_12 : decode cX12_solution 12 = .ok (.goto 37, 3) := by decide +kernel
theorem dX12_solution_15 : decode cX12_solution 15 = .ok (.iload_n 1, 1) := by decide +kernel
theorem dX12_solution_16 : decode cX12_solution 16 = .ok (.ifCond .lt 28, 3) := by decide +kernel
theorem dX12_solution_19 : decode cX12_solution 19 = .ok (.iload_n 1, 1) := by decide +kernel
theorem dX12_solution_20 : decode cX12_solution 20 = .ok (.aload_n 0, 1) := by decide +kernel
theorem dX12_solution_21 : decode cX12_solution 21 = .ok (.getfield 313, 3) := by decide +kernel
theorem dX12_solution_24 : decode cX12_solution 24 = .ok (.if_icmp .ge 20, 3) := by decide +kernel
theorem dX12_solution_27 : decode cX12_solution 27 = .ok (.iload_n 1, 1) := by decide +kernel
theorem dX12_solution_28 : decode cX12_solution 28 = .ok (.bipush 100, 2) := by decide +kernel
theorem dX12_solution_30 : decode cX12_solution 30 = .ok (.if_icmp .ge 14, 3) := by decide +kernel
theorem dX12_solution_33 : decode cX12_solution 33 = .ok (.aload_n 0, 1) := by decide +kernel
theorem dX12_solution_34 : decode cX12_solution 34 = .ok (.getfield 316, 3) := by decide +kernel
theorem dX12_solution_37 : decode cX12_solution 37 = .ok (.iload_n 2, 1) := by decide +kernel
theorem dX12_solution_38 : decode cX12_solution 38 = .ok (.ishr, 1) := by decide +kernel
theorem dX12_solution_39 : decode cX12_solution 39 = .ok (.iconst 1, 1) := by decide +kernel
theorem dX12_solution_40 : decode cX12_solution 40 = .ok (.iand, 1) := by decide +kernel
theorem dX12_solution_41 : decode cX12_solution 41 = .ok (.ifCond .ne 7, 3) := by decide +kernel
theorem dX12_solution_44 : decode cX12_solution 44 = .ok (.iconst 2, 1) := by decide +kernel
theorem dX12_solution_45 : decode cX12_solution 45 = .ok (.goto 4, 3) := by decide +kernel
theorem dX12_solution_48 : decode cX12_solution 48 = .ok (.iconst 0, 1) := by decide +kernel
theorem dX12_solution_49 : decode cX12_solution 49 = .ok (.invokevirtual 136, 3) := by decide +kernel
theorem dX12_solution_52 : decode cX12_solution 52 = .ok (.ifCond .eq 5, 3) := by decide +kernel
theorem dX12_solution_55 : decode cX12_solution 55 = .ok (.iconst 0, 1) := by decide +kernel
theorem dX12_solution_56 : decode cX12_solution 56 = .ok (.ireturn, 1) := by decide +kernel
theorem dX12_solution_57 : decode cX12_solution 57 = .ok (.aload_n 0, 1) := by decide +kernel
theorem dX12_solution_58 : decode cX12_solution 58 = .ok (.getfield 127, 3) := by decide +kernel
theorem dX12_solution_61 : decode cX12_solution 61 = .ok (.bipush 8, 2) := by decide +kernel
theorem dX12_solution_63 : decode cX12_solution 63 = .ok (.iload_n 1, 1) := by decide +kernel
theorem dX12_solution_64 : decode cX12_solution 64 = .ok (.imul, 1) := by decide +kernel
theorem dX12_solution_65 : decode cX12_solution 65 = .ok (.iload_n 2, 1) := by decide +kernel
theorem dX12_solution_66 : decode cX12_solution 66 = .ok (.iadd, 1) := by decide +kernel
theorem dX12_solution_67 : decode cX12_solution 67 = .ok (.iaload, 1) := by decide +kernel
theorem dX12_solution_68 : decode cX12_solution 68 = .ok (.ireturn, 1) := by decide +kernel
set_option maxRecDepth 20000 in
theorem ggX12_count_X12_fails : GoodIn wsX12_count wsX12_fails := goodIn_r _ [17, 18, 29, 30, 31, 32, 33, 34, 35, 36, 37, 38, 39, 40, 41, 42, 43, 44, 45, 46, 47, 48, 49, 50, 51, 52, 53, 54, 55, 56, 57, 58, 59, 60, 61, 62, 63, 64, 65, 66, 67, 68, 69, 70, 71, 72, 73, 74, 75, 76, 77, 78, 79, 80, 81, 82, 83, 84, 85] (by decide +kernel) (by decide +kernel)
set_option maxRecDepth 20000 in
theorem gX12_count_X12_fails : GoodIn wsX12_count (wsV RX12 136 RX12 yX12_fails wsX12_fails) := goodIn_app (goodIn_of _ (by decide +kernel)) ggX12_count_X12_fails
set_option maxRecDepth 20000 in
theorem ggX12_count_X12_isTable : GoodIn wsX12_count wsX12_isTable := goodIn_r _ [22, 2, 29, 30, 31, 32, 33, 34, 35, 36, 37, 38, 39, 40, 41, 42, 43, 44, 45, 46, 47, 48, 49, 50, 51, 52, 53, 54, 55, 56, 57, 58, 59, 60, 61, 62, 63, 64, 65, 66, 67, 68, 69, 70, 71, 72, 73, 74, 75, 76, 77, 78, 79, 80, 81, 82, 83, 84, 85] (by decide +kernel) (by decide +kernel)
set_option maxRecDepth 20000 in
theorem gX12_count_X12_isTable : GoodIn wsX12_count (wsV RX12 153 RX12 yX12_isTable wsX12_isTable) := goodIn_app (goodIn_of _ (by decide +kernel)) ggX12_count_X12_isTable
theorem dX12_count_0 : decode cX12_count 0 = .ok (.aload_n 0, 1) := by decide +kernel
theorem dX12_count_1 : decode cX12_count 1 = .ok (.iload_n 1, 1) := by decide +kernel
theorem dX12_count_2 : decode cX12_count 2 = .ok (.ifCond .lt 21, 3) := by decide +kernel
theorem dX12_count_5 : decode cX12_count 5 = .ok (.iload_n 1, 1) := by decide +kernel
theorem dX12_count_6 : decode cX12_count 6 = .ok (.bipush 9, 2) := by decide +kernel
theorem dX12_count_8 : decode cX12_count 8 = .ok (.if_icmp .le 9, 3) := by decide +kernel
theorem dX12_count_11 : decode cX12_count 11 = .ok (.iload_n 1, 1) := by decide +kernel
theorem dX12_count_12 : decode cX12_count 12 = .ok (.bipush 10, 2) := by decide +kernel
theorem dX12_count_14 : decode cX12_count 14 = .ok (.if_icmp .lt 9, 3) := by decide +kernel
theorem dX12_count_17 : decode cX12_count 17 = .ok (.iload_n 1, 1) := by decide +kernel
theorem dX12_count_18 : decode cX12_count 18 = .ok (.bipush 21, 2) := by decide +kernel
theorem dX12_count_20 : decode cX12_count 20 = .ok (.if_icmp .le 7, 3) := by decide +kernel
theorem dX12_count_23 : decode cX12_count 23 = .ok (.iconst 1, 1) := by decide +kernel
theorem dX12_count_24 : decode cX12_count 24 = .ok (.goto 4, 3) := by decide +kernel
theorem dX12_count_27 : decode cX12_count 27 = .ok (.iconst 0, 1) := by decide +kernel
theorem dX12_count_28 : decode cX12_count 28 = .ok (.invokevirtual 136, 3) := by decide +kernel
theorem dX12_count_31 : decode cX12_count 31 = .ok (.ifCond .eq 5, 3) := by decide +kernel
theorem dX12_count_34 : decode cX12_count 34 = .ok (.iconst 0, 1) := by decide +kernel
theorem dX12_count_35 : decode cX12_count 35 = .ok (.ireturn, 1) := by decide +kernel
theorem dX12_count_36 : decode cX12_count 36 = .ok (.iconst 0, 1) := by decide +kernel
theorem dX12_count_37 : decode cX12_count 37 = .ok (.istore_n 2, 1) := by decide +kernel
theorem dX12_count_38 : decode cX12_count 38 = .ok (.iload_n 1, 1) := by decide +kernel
theorem dX12_count_39 : decode cX12_count 39 = .ok (.tableswitch 148 0 9 #[53, 58, 63, 68, 73, 78, 83, 88, 116, 121], 53) := by decide +kernel
theorem dX12_count_92 : decode cX12_count 92 = .ok (.aload_n 0, 1) := by decide +kernel
theorem dX12_count_93 : decode cX12_count 93 = .ok (.getfield 133, 3) := by decide +kernel
theorem dX12_count_96 : decode cX12_count 96 = .ok (.ireturn, 1) := by decide +kernel
theorem dX12_count_97 : decode cX12_count 97 = .ok (.aload_n 0, 1) := by decide +kernel
theorem dX12_count_98 : decode cX12_count 98 = .ok (.getfield 144, 3) := by decide +kernel
theorem dX12_count_101 : decode cX12_count 101 = .ok (.ireturn, 1) := by decide +kernel
theorem dX12_count_102 : decode cX12_count 102 = .ok (.aload_n 0, 1) := by decide +kernel
theorem dX12_count_103 : decode cX12_count 103 = .ok (.getfield 150, 3) := by decide +kernel
theorem dX12_count_106 : decode cX12_count 106 = .ok (.ireturn, 1) := by decide +kernel
theorem dX12_count_107 : decode cX12_count 107 = .ok (.aload_n 0, 1) := by decide +kernel
theorem dX12_count_108 : decode cX12_count 108 = .ok (.getfield 187, 3) := by decide +kernel
theorem dX12_count_111 : decode cX12_count 111 = .ok (.ireturn, 1) := by decide +kernel
theorem dX12_count_112 : decode cX12_count 112 = .ok (.aload_n 0, 1) := by decide +kernel
theorem dX12_count_113 : decode cX12_count 113 = .ok (.getfield 147, 3) := by decide +kernel
theorem dX12_count_116 : decode cX12_count 116 = .ok (.ireturn, 1) := by decide +kernel
theorem dX12_count_117 : decode cX12_count 117 = .ok (.aload_n 0, 1) := by decide +kernel
theorem dX12_count_118 : decode cX12_count 118 = .ok (.getfield 168, 3) := by decide +kernel
theorem dX12_count_121 : decode cX12_count 121 = .ok (.ireturn, 1) := by decide +kernel
theorem dX12_count_122 : decode cX12_count 122 = .ok (.aload_n 0, 1) := by decide +kernel
theorem dX12_count_123 : decode cX12_count 123 = .ok (.getfield 100, 3) := by decide +kernel
theorem dX12_count_126 : decode cX12_count 126 = .ok (.ireturn, 1) := by decide +kernel
theorem dX12_count_127 : decode cX12_count 127 = .ok (.iconst 0, 1) := by decide +kernel
theorem dX12_count_128 : decode cX12_count 128 = .ok (.istore_n 3, 1) := by decide +kernel
theorem dX12_count_129 : decode cX12_count 129 = .ok (.iload_n 3, 1) := by decide +kernel
theorem dX12_count_130 : decode cX12_count 130 = .ok (.bipush 10, 2) := by decide +kernel
theorem dX12_count_132 : decode cX12_count 132 = .ok (.if_icmp .ge 21, 3) := by decide +kernel
theorem dX12_count_135 : decode cX12_count 135 = .ok (.aload_n 0, 1) := by decide +kernel
theorem dX12_count_136 : decode cX12_count 136 = .ok (.getfield 73, 3) := by decide +kernel
theorem dX12_count_139 : decode cX12_count 139 = .ok (.iload_n 3, 1) := by decide +kernel
theorem dX12_count_140 : decode cX12_count 140 = .ok (.baload, 1) := by decide +kernel
theorem dX12_count_141 : decode cX12_count 141 = .ok (.ifCond .eq 6, 3) := by decide +kernel
theorem dX12_count_144 : decode cX12_count 144 = .ok (.iinc 2 1, 3) := by decide +kernel
theorem dX12_count_147 : decode cX12_count 147 = .ok (.iinc 3 1, 3) := by decide +kernel
theorem dX12_count_150 : decode cX12_count 150 = .ok (.goto (-21), 3) := by decide +kernel
theorem dX12_count_153 : decode cX12_count 153 = .ok (.iload_n 2, 1) := by decide +kernel
theorem dX12_count_154 : decode cX12_count 154 = .ok (.ireturn, 1) := by decide +kernel
theorem dX12_count_155 : decode cX12_count 155 = .ok (.aload_n 0, 1) := by decide +kernel
theorem dX12_count_156 : decode cX12_count 156 = .ok (.getfield 193, 3) := by decide +kernel
theorem dX12_count_159 : decode cX12_count 159 = .ok (.ireturn, 1) := by decide +kernel
theorem dX12_count_160 : decode cX12_count 160 = .ok (.iconst 0, 1) := by decide +kernel
theorem dX12_count_161 : decode cX12_count 161 = .ok (.istore_n 3, 1) := by decide +kernel
theorem dX12_count_162 : decode cX12_count 162 = .ok (.iload_n 3, 1) := by decide +kernel
theorem dX12_count_163 : decode cX12_count 163 = .ok (.bipush 8, 2) := by decide +kernel
theorem dX12_count_165 : decode cX12_count 165 = .ok (.if_icmp .ge 20, 3) := by decide +kernel
theorem dX12_count_168 : decode cX12_count 168 = .ok (.iload_n 2, 1) := by decide +kernel
theorem dX12_count_169 : decode cX12_count 169 = .ok (.aload_n 0, 1) := by decide +kernel
theorem dX12_count_170 : decode cX12_count 170 = .ok (.getfield 316, 3) := by decide +kernel
theorem dX12_count_173 : decode cX12_count 173 = .ok (.iload_n 3, 1) := by decide +kernel
theorem dX12_count_174 : decode cX12_count 174 = .ok (.ishr, 1) := by decide +kernel
theorem dX12_count_175 : decode cX12_count 175 = .ok (.iconst 1, 1) := by decide +kernel
theorem dX12_count_176 : decode cX12_count 176 = .ok (.iand, 1) := by decide +kernel
theorem dX12_count_177 : decode cX12_count 177 = .ok (.iadd, 1) := by decide +kernel
theorem dX12_count_178 : decode cX12_count 178 = .ok (.istore_n 2, 1) := by decide +kernel
theorem dX12_count_179 : decode cX12_count 179 = .ok (.iinc 3 1, 3) := by decide +kernel
theorem dX12_count_182 : decode cX12_count 182 = .ok (.goto (-20), 3) := by decide +kernel
theorem dX12_count_185 : decode cX12_count 185 = .ok (.iload_n 2, 1) := by decide +kernel
theorem dX12_count_186 : decode cX12_count 186 = .ok (.ireturn, 1) := by decide +kernel
theorem dX12_count_187 : decode cX12_count 187 = .ok (.aload_n 0, 1) := by decide +kernel
theorem dX12_count_188 : decode cX12_count 188 = .ok (.iload_n 1, 1) := by decide +kernel
theorem dX12_count_189 : decode cX12_count 189 = .ok (.bipush 10, 2) := by decide +kernel
theorem dX12_count_191 : decode cX12_count 191 = .ok (.isub, 1) := by decide +kernel
theorem dX12_count_192 : decode cX12_count 192 = .ok (.invokevirtual 153, 3) := by decide +kernel
theorem dX12_count_195 : decode cX12_count 195 = .ok (.ifCond .ne 5, 3) := by decide +kernel
theorem dX12_count_198 : decode cX12_count 198 = .ok (.iconst (-1), 1) := by decide +kernel
theorem dX12_count_199 : decode cX12_count 199 = .ok (.ireturn, 1) := by decide +kernel
theorem dX12_count_200 : decode cX12_count 200 = .ok (.aload_n 0, 1) := by decide +kernel
theorem dX12_count_201 : decode cX12_count 201 = .ok (.getfield 30, 3) := by decide +kernel
theorem dX12_count_204 : decode cX12_count 204 = .ok (.iload_n 1, 1) := by decide +kernel
theorem dX12_count_205 : decode cX12_count 205 = .ok (.bipush 10, 2) := by decide +kernel
theorem dX12_count_207 : decode cX12_count 207 = .ok (.isub, 1) := by decide +kernel
theorem dX12_count_208 : decode cX12_count 208 = .ok (.iaload, 1) := by decide +kernel
theorem dX12_count_209 : decode cX12_count 209 = .ok (.istore_n 3, 1) := by decide +kernel
theorem dX12_count_210 : decode cX12_count 210 = .ok (.iload_n 3, 1) := by decide +kernel
theorem dX12_count_211 : decode cX12_count 211 = .ok (.ifCond .lt 28, 3) := by decide +kernel
theorem dX12_count_214 : decode cX12_count 214 = .ok (.aload_n 0, 1) := by decide +kernel
theorem dX12_count_215 : decode cX12_count 215 = .ok (.iload_n 3, 1) := by decide +kernel
theorem dX12_count_216 : decode cX12_count 216 = .ok (.aload_n 0, 1) := by decide +kernel
theorem dX12_count_217 : decode cX12_count 217 = .ok (.getfield 150, 3) := by decide +kernel
theorem dX12_count_220 : decode cX12_count 220 = .ok (.invokevirtual 156, 3) := by decide +kernel
theorem dX12_count_223 : decode cX12_count 223 = .ok (.ifCond .eq 6, 3) := by decide +kernel
theorem dX12_count_226 : decode cX12_count 226 = .ok (.iinc 2 1, 3) := by decide +kernel
theorem dX12_count_229 : decode cX12_count 229 = .ok (.aload_n 0, 1) := by decide +kernel
theorem dX12_count_230 : decode cX12_count 230 = .ok (.getfield 61, 3) := by decide +kernel
theorem dX12_count_233 : decode cX12_count 233 = .ok (.iload_n 3, 1) := by decide +kernel
theorem dX12_count_234 : decode cX12_count 234 = .ok (.iaload, 1) := by decide +kernel
theorem dX12_count_235 : decode cX12_count 235 = .ok (.istore_n 3, 1) := by decide +kernel
theorem dX12_count_236 : decode cX12_count 236 = .ok (.goto (-26), 3) := by decide +kernel
theorem dX12_count_239 : decode cX12_count 239 = .ok (.iload_n 2, 1) := by decide +kernel
theorem dX12_count_240 : decode cX12_count 240 = .ok (.ireturn, 1) := by decide +kernel
