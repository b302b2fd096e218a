theorem ggX0_writeBlock_X0_isSkipped : GoodIn wsX0_writeBlock wsX0_isSkipped := goodIn_r _ [16, 1, 4, 114, 115, 116, 117, 118, 119, 120, 121, 122, 123, 124, 125, 126, 127, 128, 129, 130, 131, 132, 133, 134, 135, 136, 137, 138, 139, 140, 141, 142, 143, 144, 145, 146, 147, 148, 149, 150, 151, 152, 153, 154] (by decide +kernel) (by decide +kernel)
set_option maxRecDepth 20000 in
theorem gX0_writeBlock_X0_isSkipped : GoodIn wsX0_writeBlock (wsV RX0 563 RX0 yX0_isSkipped wsX0_isSkipped) := goodIn_app (goodIn_of _ (by decide +kernel)) ggX0_writeBlock_X0_isSkipped
set_option maxRecDepth 20000 in
theorem ggX0_writeBlock_X10_ue : GoodIn wsX0_writeBlock wsX10_ue := goodIn_r _ [64, 65, 66, 20, 67, 68, 18, 19, 21, 22, 23, 24, 25, 26, 27, 28, 29, 30, 31, 32, 33, 34, 35, 36, 37, 38, 39, 40, 41, 42, 43, 44, 45, 46, 47, 48, 49, 50, 51, 52, 53, 54, 55, 56, 57, 58, 59, 60, 159, 160, 161, 162, 163, 164, 165, 166, 167, 168, 169, 170, 171, 172, 173, 174, 175, 176, 177, 178] (by decide +kernel) (by decide +kernel)
set_option maxRecDepth 20000 in
theorem gX0_writeBlock_X10_ue : GoodIn wsX0_writeBlock (wsV RX0 162 RX10 yX10_ue wsX10_ue) := goodIn_app (goodIn_of _ (by decide +kernel)) ggX0_writeBlock_X10_ue
set_option maxRecDepth 20000 in
theorem ggX0_writeBlock_X0_writeModes : GoodIn wsX0_writeBlock wsX0_writeModes := goodIn_r _ [88, 1, 11, 6, 89, 90, 91, 92, 93, 94, 95, 96, 97, 98, 99, 100, 101, 102, 103, 104, 105, 106, 107, 108, 109, 110, 111, 112, 113, 17, 18, 19, 20, 21, 22, 23, 24, 25, 26, 27, 28, 29, 30, 31, 32, 33, 34, 35, 36, 37, 38, 39, 40, 41, 42, 43, 44, 45, 46, 47, 48, 49, 50, 51, 52, 53, 54, 55, 56, 57, 58, 59, 60, 114, 115, 116, 117, 118, 119, 120, 121, 122, 123, 124, 125, 126, 127, 128, 129, 130, 131, 132, 133, 134, 135, 136, 137, 138, 139, 140, 141, 142, 143, 144, 145, 146, 147, 148, 149, 150, 151, 152, 153, 154, 193, 194, 195, 196, 197, 198, 199, 200, 201, 202, 203, 204, 205, 206, 207, 208, 209, 210, 159, 160, 161, 162, 163, 164, 165, 166, 167, 168, 169, 170, 171, 172, 173, 174, 175, 176, 177, 178] (by decide +kernel) (by decide +kernel)
set_option maxRecDepth 20000 in
theorem gX0_writeBlock_X0_writeModes : GoodIn wsX0_writeBlock (wsV RX0 572 RX0 yX0_writeModes wsX0_writeModes) := goodIn_app (goodIn_of _ (by decide +kernel)) ggX0_writeBlock_X0_writeModes
theorem ggX0_writeBlock_X10_rawSamples : GoodIn wsX0_writeBlock wsX10_rawSamples := goodIn_r _ [72, 22, 73, 74, 75, 20, 76, 25, 26, 57, 58, 59, 60, 33, 28, 29, 30, 31, 32, 34, 35, 36, 37, 38, 39, 40, 41, 42, 43, 44, 45, 46, 47, 48, 49, 50, 51, 52, 53, 54, 55, 56, 77, 78, 79, 80, 68, 18, 19, 21, 23, 24, 27, 81, 82, 83, 84, 159, 160, 161, 162, 163, 164, 165, 166, 167, 168, 169, 170, 171, 172, 173, 174, 175, 176, 177, 178] (by decide +kernel) (by decide +kernel)
set_option maxRecDepth 20000 in
theorem gX0_writeBlock_X10_rawSamples : GoodIn wsX0_writeBlock (wsV RX0 568 RX10 yX10_rawSamples wsX10_rawSamples) := goodIn_app (goodIn_of _ (by decide +kernel)) ggX0_writeBlock_X10_rawSamples
set_option maxRecDepth 20000 in
theorem ggX0_writeBlock_X10_code : GoodIn wsX0_writeBlock wsX10_code := goodIn_r _ [21, 22, 23, 24, 25, 26, 27, 28, 29, 30, 20, 31, 32, 33, 34, 35, 36, 37, 38, 39, 40, 41, 42, 43, 44, 45, 46, 47, 48, 49, 50, 51, 52, 53, 54, 55, 56, 57, 58, 59, 60, 159, 160, 161, 162, 163, 164, 165, 166, 167, 168, 169, 170, 171, 172, 173, 174, 175, 176, 177, 178] (by decide +kernel) (by decide +kernel)
set_option maxRecDepth 20000 in
theorem gX0_writeBlock_X10_code : GoodIn wsX0_writeBlock (wsV RX0 150 RX10 yX10_code wsX10_code) := goodIn_app (goodIn_of _ (by decide +kernel)) ggX0_writeBlock_X10_code
set_option maxRecDepth 20000 in
theorem dX0_writeBlock_0 : decode cX0_writeBlock 0 = .ok (.bipush 8, 2) := by decide +kernel
theorem dX0_writeBlock_2 : decode cX0_writeBlock 2 = .ok (.iload_n 1, 1) := by decide +kernel
theorem dX0_writeBlock_3 : decode cX0_writeBlock 3 = .ok (.imul, 1) := by decide +kernel
theorem dX0_writeBlock_4 : decode cX0_writeBlock 4 = .ok (.istore_n 2, 1) := by decide +kernel
theorem dX0_writeBlock_5 : decode cX0_writeBlock 5 = .ok (.aload_n 0, 1) := by decide +kernel
theorem dX0_writeBlock_6 : decode cX0_writeBlock 6 = .ok (.getfield 36, 3) := by decide +kernel
theorem dX0_writeBlock_9 : decode cX0_writeBlock 9 = .ok (.getfield 81, 3) := by decide +kernel
theorem dX0_writeBlock_12 : decode cX0_writeBlock 12 = .ok (.getfield 252, 3) := by decide +kernel
theorem dX0_writeBlock_15 : decode cX0_writeBlock 15 = .ok (.iconst 1, 1) := by decide +kernel
theorem dX0_writeBlock_16 : decode cX0_writeBlock 16 = .ok (.iaload, 1) := by decide +kernel
theorem dX0_writeBlock_17 : decode cX0_writeBlock 17 = .ok (.istore_n 3, 1) := by decide +kernel
theorem dX0_writeBlock_18 : decode cX0_writeBlock 18 = .ok (.aload_n 0, 1) := by decide +kernel
theorem dX0_writeBlock_19 : decode cX0_writeBlock 19 = .ok (.getfield 36, 3) := by decide +kernel
theorem dX0_writeBlock_22 : decode cX0_writeBlock 22 = .ok (.getfield 216, 3) := by decide +kernel
theorem dX0_writeBlock_25 : decode cX0_writeBlock 25 = .ok (.iload_n 2, 1) := by decide +kernel
theorem dX0_writeBlock_26 : decode cX0_writeBlock 26 = .ok (.iconst 0, 1) := by decide +kernel
theorem dX0_writeBlock_27 : decode cX0_writeBlock 27 = .ok (.iadd, 1) := by decide +kernel
theorem dX0_writeBlock_28 : decode cX0_writeBlock 28 = .ok (.iaload, 1) := by decide +kernel
theorem dX0_writeBlock_29 : decode cX0_writeBlock 29 = .ok (.istore 4, 2) := by decide +kernel
theorem dX0_writeBlock_31 : decode cX0_writeBlock 31 = .ok (.iload_n 3, 1) := by decide +kernel
theorem dX0_writeBlock_32 : decode cX0_writeBlock 32 = .ok (.iconst 2, 1) := by decide +kernel
theorem dX0_writeBlock_33 : decode cX0_writeBlock 33 = .ok (.if_icmp .eq 41, 3) := by decide +kernel
theorem dX0_writeBlock_36 : decode cX0_writeBlock 36 = .ok (.aload_n 0, 1) := by decide +kernel
theorem dX0_writeBlock_37 : decode cX0_writeBlock 37 = .ok (.getfield 36, 3) := by decide +kernel
theorem dX0_writeBlock_40 : decode cX0_writeBlock 40 = .ok (.getfield 85, 3) := by decide +kernel
theorem dX0_writeBlock_43 : decode cX0_writeBlock 43 = .ok (.iconst 1, 1) := by decide +kernel
theorem dX0_writeBlock_44 : decode cX0_writeBlock 44 = .ok (.iaload, 1) := by decide +kernel
theorem dX0_writeBlock_45 : decode cX0_writeBlock 45 = .ok (.iconst 1, 1) := by decide +kernel
theorem dX0_writeBlock_46 : decode cX0_writeBlock 46 = .ok (.if_icmp .ne 28, 3) := by decide +kernel
theorem dX0_writeBlock_49 : decode cX0_writeBlock 49 = .ok (.aload_n 0, 1) := by decide +kernel
theorem dX0_writeBlock_50 : decode cX0_writeBlock 50 = .ok (.getfield 29, 3) := by decide +kernel
theorem dX0_writeBlock_53 : decode cX0_writeBlock 53 = .ok (.iconst 0, 1) := by decide +kernel
theorem dX0_writeBlock_54 : decode cX0_writeBlock 54 = .ok (.aload_n 0, 1) := by decide +kernel
theorem dX0_writeBlock_55 : decode cX0_writeBlock 55 = .ok (.iload_n 1, 1) := by decide +kernel
theorem dX0_writeBlock_56 : decode cX0_writeBlock 56 = .ok (.invokevirtual 563, 3) := by decide +kernel
theorem dX0_writeBlock_59 : decode cX0_writeBlock 59 = .ok (.ifCond .eq 7, 3) := by decide +kernel
theorem dX0_writeBlock_62 : decode cX0_writeBlock 62 = .ok (.lconst 1, 1) := by decide +kernel
theorem dX0_writeBlock_63 : decode cX0_writeBlock 63 = .ok (.goto 4, 3) := by decide +kernel
theorem dX0_writeBlock_66 : decode cX0_writeBlock 66 = .ok (.lconst 0, 1) := by decide +kernel
theorem dX0_writeBlock_67 : decode cX0_writeBlock 67 = .ok (.iconst 1, 1) := by decide +kernel
theorem dX0_writeBlock_68 : decode cX0_writeBlock 68 = .ok (.invokevirtual 150, 3) := by decide +kernel
theorem dX0_writeBlock_71 : decode cX0_writeBlock 71 = .ok (.goto 55, 3) := by decide +kernel
theorem dX0_writeBlock_74 : decode cX0_writeBlock 74 = .ok (.aload_n 0, 1) := by decide +kernel
theorem dX0_writeBlock_75 : decode cX0_writeBlock 75 = .ok (.iload_n 1, 1) := by decide +kernel
theorem dX0_writeBlock_76 : decode cX0_writeBlock 76 = .ok (.invokevirtual 563, 3) := by decide +kernel
theorem dX0_writeBlock_79 : decode cX0_writeBlock 79 = .ok (.ifCond .eq 19, 3) := by decide +kernel
theorem dX0_writeBlock_82 : decode cX0_writeBlock 82 = .ok (.aload_n 0, 1) := by decide +kernel
theorem dX0_writeBlock_83 : decode cX0_writeBlock 83 = .ok (.getfield 29, 3) := by decide +kernel
theorem dX0_writeBlock_86 : decode cX0_writeBlock 86 = .ok (.dup, 1) := by decide +kernel
theorem dX0_writeBlock_87 : decode cX0_writeBlock 87 = .ok (.getfield 309, 3) := by decide +kernel
theorem dX0_writeBlock_90 : decode cX0_writeBlock 90 = .ok (.iconst 1, 1) := by decide +kernel
theorem dX0_writeBlock_91 : decode cX0_writeBlock 91 = .ok (.iadd, 1) := by decide +kernel
theorem dX0_writeBlock_92 : decode cX0_writeBlock 92 = .ok (.putfield 309, 3) := by decide +kernel
theorem dX0_writeBlock_95 : decode cX0_writeBlock 95 = .ok (.goto 31, 3) := by decide +kernel
theorem dX0_writeBlock_98 : decode cX0_writeBlock 98 = .ok (.iload_n 3, 1) := by decide +kernel
theorem dX0_writeBlock_99 : decode cX0_writeBlock 99 = .ok (.iconst 2, 1) := by decide +kernel
theorem dX0_writeBlock_100 : decode cX0_writeBlock 100 = .ok (.if_icmp .eq 26, 3) := by decide +kernel
theorem dX0_writeBlock_103 : decode cX0_writeBlock 103 = .ok (.aload_n 0, 1) := by decide +kernel
theorem dX0_writeBlock_104 : decode cX0_writeBlock 104 = .ok (.getfield 29, 3) := by decide +kernel
theorem dX0_writeBlock_107 : decode cX0_writeBlock 107 = .ok (.iconst 0, 1) := by decide +kernel
theorem dX0_writeBlock_108 : decode cX0_writeBlock 108 = .ok (.aload_n 0, 1) := by decide +kernel
theorem dX0_writeBlock_109 : decode cX0_writeBlock 109 = .ok (.getfield 29, 3) := by decide +kernel
theorem dX0_writeBlock_112 : decode cX0_writeBlock 112 = .ok (.getfield 309, 3) := by decide +kernel
theorem dX0_writeBlock_115 : decode cX0_writeBlock 115 = .ok (.invokevirtual 162, 3) := by decide +kernel
theorem dX0_writeBlock_118 : decode cX0_writeBlock 118 = .ok (.aload_n 0, 1) := by decide +kernel
theorem dX0_writeBlock_119 : decode cX0_writeBlock 119 = .ok (.getfield 29, 3) := by decide +kernel
theorem dX0_writeBlock_122 : decode cX0_writeBlock 122 = .ok (.iconst 0, 1) := by decide +kernel
theorem dX0_writeBlock_123 : decode cX0_writeBlock 123 = .ok (.putfield 309, 3) := by decide +kernel
theorem dX0_writeBlock_126 : decode cX0_writeBlock 126 = .ok (.aload_n 0, 1) := by decide +kernel
theorem dX0_writeBlock_127 : decode cX0_writeBlock 127 = .ok (.iload_n 1, 1) := by decide +kernel
theorem dX0_writeBlock_128 : decode cX0_writeBlock 128 = .ok (.invokevirtual 563, 3) := by decide +kernel
theorem dX0_writeBlock_131 : decode cX0_writeBlock 131 = .ok (.ifCond .eq 4, 3) := by decide +kernel
theorem dX0_writeBlock_134 : decode cX0_writeBlock 134 = .ok (.return_, 1) := by decide +kernel
theorem dX0_writeBlock_135 : decode cX0_writeBlock 135 = .ok (.iload_n 3, 1) := by decide +kernel
theorem dX0_writeBlock_136 : decode cX0_writeBlock 136 = .ok (.iconst 2, 1) := by decide +kernel
theorem dX0_writeBlock_137 : decode cX0_writeBlock 137 = .ok (.if_icmp .ne 7, 3) := by decide +kernel
theorem dX0_writeBlock_140 : decode cX0_writeBlock 140 = .ok (.iconst 0, 1) := by decide +kernel
theorem dX0_writeBlock_141 : decode cX0_writeBlock 141 = .ok (.goto 13, 3) := by decide +kernel
theorem dX0_writeBlock_144 : decode cX0_writeBlock 144 = .ok (.iload_n 3, 1) := by decide +kernel
theorem dX0_writeBlock_145 : decode cX0_writeBlock 145 = .ok (.ifCond .ne 7, 3) := by decide +kernel
theorem dX0_writeBlock_148 : decode cX0_writeBlock 148 = .ok (.iconst 5, 1) := by decide +kernel
theorem dX0_writeBlock_149 : decode cX0_writeBlock 149 = .ok (.goto 5, 3) := by decide +kernel
theorem dX0_writeBlock_152 : decode cX0_writeBlock 152 = .ok (.bipush 23, 2) := by decide +kernel
theorem dX0_writeBlock_154 : decode cX0_writeBlock 154 = .ok (.istore 5, 2) := by decide +kernel
theorem dX0_writeBlock_156 : decode cX0_writeBlock 156 = .ok (.iload 4, 2) := by decide +kernel
theorem dX0_writeBlock_158 : decode cX0_writeBlock 158 = .ok (.iconst 2, 1) := by decide +kernel
theorem dX0_writeBlock_159 : decode cX0_writeBlock 159 = .ok (.if_icmp .ne 33, 3) := by decide +kernel
theorem dX0_writeBlock_162 : decode cX0_writeBlock 162 = .ok (.aload_n 0, 1) := by decide +kernel
theorem dX0_writeBlock_163 : decode cX0_writeBlock 163 = .ok (.getfield 29, 3) := by decide +kernel
theorem dX0_writeBlock_166 : decode cX0_writeBlock 166 = .ok (.iconst 1, 1) := by decide +kernel
theorem dX0_writeBlock_167 : decode cX0_writeBlock 167 = .ok (.iload 5, 2) := by decide +kernel
theorem dX0_writeBlock_169 : decode cX0_writeBlock 169 = .ok (.bipush 25, 2) := by decide +kernel
theorem dX0_writeBlock_171 : decode cX0_writeBlock 171 = .ok (.iadd, 1) := by decide +kernel
theorem dX0_writeBlock_172 : decode cX0_writeBlock 172 = .ok (.invokevirtual 162, 3) := by decide +kernel
theorem dX0_writeBlock_175 : decode cX0_writeBlock 175 = .ok (.aload_n 0, 1) := by decide +kernel
theorem dX0_writeBlock_176 : decode cX0_writeBlock 176 = .ok (.getfield 29, 3) := by decide +kernel
theorem dX0_writeBlock_179 : decode cX0_writeBlock 179 = .ok (.aload_n 0, 1) := by decide +kernel
theorem dX0_writeBlock_180 : decode cX0_writeBlock 180 = .ok (.getfield 43, 3) := by decide +kernel
theorem dX0_writeBlock_183 : decode cX0_writeBlock 183 = .ok (.getfield 566, 3) := by decide +kernel
theorem dX0_writeBlock_186 : decode cX0_writeBlock 186 = .ok (.invokevirtual 568, 3) := by decide +kernel
theorem dX0_writeBlock_189 : decode cX0_writeBlock 189 = .ok (.goto 209, 3) := by decide +kernel
theorem dX0_writeBlock_192 : decode cX0_writeBlock 192 = .ok (.iload 4, 2) := by decide +kernel
theorem dX0_writeBlock_194 : decode cX0_writeBlock 194 = .ok (.iconst 3, 1) := by decide +kernel
theorem dX0_writeBlock_195 : decode cX0_writeBlock 195 = .ok (.if_icmp .ne 77, 3) := by decide +kernel
theorem dX0_writeBlock_198 : decode cX0_writeBlock 198 = .ok (.aload_n 0, 1) := by decide +kernel
theorem dX0_writeBlock_199 : decode cX0_writeBlock 199 = .ok (.getfield 36, 3) := by decide +kernel
theorem dX0_writeBlock_202 : decode cX0_writeBlock 202 = .ok (.getfield 216, 3) := by decide +kernel
theorem dX0_writeBlock_205 : decode cX0_writeBlock 205 = .ok (.iload_n 2, 1) := by decide +kernel
theorem dX0_writeBlock_206 : decode cX0_writeBlock 206 = .ok (.iconst 1, 1) := by decide +kernel
theorem dX0_writeBlock_207 : decode cX0_writeBlock 207 = .ok (.iadd, 1) := by decide +kernel
theorem dX0_writeBlock_208 : decode cX0_writeBlock 208 = .ok (.iaload, 1) := by decide +kernel
theorem dX0_writeBlock_209 : decode cX0_writeBlock 209 = .ok (.istore 6, 2) := by decide +kernel
theorem dX0_writeBlock_211 : decode cX0_writeBlock 211 = .ok (.aload_n 0, 1) := by decide +kernel
theorem dX0_writeBlock_212 : decode cX0_writeBlock 212 = .ok (.getfield 29, 3) := by decide +kernel
theorem dX0_writeBlock_215 : decode cX0_writeBlock 215 = .ok (.iconst 1, 1) := by decide +kernel
theorem dX0_writeBlock_216 : decode cX0_writeBlock 216 = .ok (.iload 6, 2) := by decide +kernel
theorem dX0_writeBlock_218 : decode cX0_writeBlock 218 = .ok (.invokevirtual 162, 3) := by decide +kernel
theorem dX0_writeBlock_221 : decode cX0_writeBlock 221 = .ok (.iconst 0, 1) := by decide +kernel
theorem dX0_writeBlock_222 : decode cX0_writeBlock 222 = .ok (.istore 7, 2) := by decide +kernel
theorem dX0_writeBlock_224 : decode cX0_writeBlock 224 = .ok (.iload 7, 2) := by decide +kernel
theorem dX0_writeBlock_226 : decode cX0_writeBlock 226 = .ok (.iconst 4, 1) := by decide +kernel
theorem dX0_writeBlock_227 : decode cX0_writeBlock 227 = .ok (.if_icmp .ge 42, 3) := by decide +kernel
theorem dX0_writeBlock_230 : decode cX0_writeBlock 230 = .ok (.iload 6, 2) := by decide +kernel
theorem dX0_writeBlock_232 : decode cX0_writeBlock 232 = .ok (.iload_n 3, 1) := by decide +kernel
theorem dX0_writeBlock_233 : decode cX0_writeBlock 233 = .ok (.ifCond .ne 7, 3) := by decide +kernel
theorem dX0_writeBlock_236 : decode cX0_writeBlock 236 = .ok (.iconst 3, 1) := by decide +kernel
theorem dX0_writeBlock_237 : decode cX0_writeBlock 237 = .ok (.goto 5, 3) := by decide +kernel
theorem dX0_writeBlock_240 : decode cX0_writeBlock 240 = .ok (.bipush 22, 2) := by decide +kernel
theorem dX0_writeBlock_242 : decode cX0_writeBlock 242 = .ok (.if_icmp .ne 27, 3) := by decide +kernel
theorem dX0_writeBlock_245 : decode cX0_writeBlock 245 = .ok (.aload_n 0, 1) := by decide +kernel
theorem dX0_writeBlock_246 : decode cX0_writeBlock 246 = .ok (.getfield 29, 3) := by decide +kernel
theorem dX0_writeBlock_249 : decode cX0_writeBlock 249 = .ok (.iconst 5, 1) := by decide +kernel
theorem dX0_writeBlock_250 : decode cX0_writeBlock 250 = .ok (.aload_n 0, 1) := by decide +kernel
theorem dX0_writeBlock_251 : decode cX0_writeBlock 251 = .ok (.getfield 36, 3) := by decide +kernel
theorem dX0_writeBlock_254 : decode cX0_writeBlock 254 = .ok (.getfield 400, 3) := by decide +kernel
theorem dX0_writeBlock_257 : decode cX0_writeBlock 257 = .ok (.iload 7, 2) := by decide +kernel
theorem dX0_writeBlock_259 : decode cX0_writeBlock 259 = .ok (.iaload, 1) := by decide +kernel
theorem dX0_writeBlock_260 : decode cX0_writeBlock 260 = .ok (.invokevirtual 162, 3) := by decide +kernel
theorem dX0_writeBlock_263 : decode cX0_writeBlock 263 = .ok (.iinc 7 1, 3) := by decide +kernel
theorem dX0_writeBlock_266 : decode cX0_writeBlock 266 = .ok (.goto (-42), 3) := by decide +kernel
theorem dX0_writeBlock_269 : decode cX0_writeBlock 269 = .ok (.goto 129, 3) := by decide +kernel
theorem dX0_writeBlock_272 : decode cX0_writeBlock 272 = .ok (.iload 4, 2) := by decide +kernel
theorem dX0_writeBlock_274 : decode cX0_writeBlock 274 = .ok (.iconst 1, 1) := by decide +kernel
theorem dX0_writeBlock_275 : decode cX0_writeBlock 275 = .ok (.if_icmp .ne 89, 3) := by decide +kernel
theorem dX0_writeBlock_278 : decode cX0_writeBlock 278 = .ok (.aload_n 0, 1) := by decide +kernel
theorem dX0_writeBlock_279 : decode cX0_writeBlock 279 = .ok (.getfield 36, 3) := by decide +kernel
theorem dX0_writeBlock_282 : decode cX0_writeBlock 282 = .ok (.getfield 356, 3) := by decide +kernel
theorem dX0_writeBlock_285 : decode cX0_writeBlock 285 = .ok (.bipush 16, 2) := by decide +kernel
theorem dX0_writeBlock_287 : decode cX0_writeBlock 287 = .ok (.iload_n 1, 1) := by decide +kernel
theorem dX0_writeBlock_288 : decode cX0_writeBlock 288 = .ok (.imul, 1) := by decide +kernel
theorem dX0_writeBlock_289 : decode cX0_writeBlock 289 = .ok (.iaload, 1) := by decide +kernel
theorem dX0_writeBlock_290 : decode cX0_writeBlock 290 = .ok (.iconst 4, 1) := by decide +kernel
theorem dX0_writeBlock_291 : decode cX0_writeBlock 291 = .ok (.aload_n 0, 1) := by decide +kernel
theorem dX0_writeBlock_292 : decode cX0_writeBlock 292 = .ok (.getfield 36, 3) := by decide +kernel
theorem dX0_writeBlock_295 : decode cX0_writeBlock 295 = .ok (.getfield 216, 3) := by decide +kernel
theorem dX0_writeBlock_298 : decode cX0_writeBlock 298 = .ok (.iload_n 2, 1) := by decide +kernel
theorem dX0_writeBlock_299 : decode cX0_writeBlock 299 = .ok (.iconst 4, 1) := by decide +kernel
theorem dX0_writeBlock_300 : decode cX0_writeBlock 300 = .ok (.iadd, 1) := by decide +kernel
theorem dX0_writeBlock_301 : decode cX0_writeBlock 301 = .ok (.iaload, 1) := by decide +kernel
theorem dX0_writeBlock_302 : decode cX0_writeBlock 302 = .ok (.imul, 1) := by decide +kernel
theorem dX0_writeBlock_303 : decode cX0_writeBlock 303 = .ok (.iadd, 1) := by decide +kernel
theorem dX0_writeBlock_304 : decode cX0_writeBlock 304 = .ok (.aload_n 0, 1) := by decide +kernel
theorem dX0_writeBlock_305 : decode cX0_writeBlock 305 = .ok (.getfield 36, 3) := by decide +kernel
theorem dX0_writeBlock_308 : decode cX0_writeBlock 308 = .ok (.getfield 216, 3) := by decide +kernel
theorem dX0_writeBlock_311 : decode cX0_writeBlock 311 = .ok (.iload_n 2, 1) := by decide +kernel
theorem dX0_writeBlock_312 : decode cX0_writeBlock 312 = .ok (.iconst 3, 1) := by decide +kernel
theorem dX0_writeBlock_313 : decode cX0_writeBlock 313 = .ok (.iadd, 1) := by decide +kernel
theorem dX0_writeBlock_314 : decode cX0_writeBlock 314 = .ok (.iaload, 1) := by decide +kernel
theorem dX0_writeBlock_315 : decode cX0_writeBlock 315 = .ok (.ifCond .le 8, 3) := by decide +kernel
theorem dX0_writeBlock_318 : decode cX0_writeBlock 318 = .ok (.bipush 12, 2) := by decide +kernel
theorem dX0_writeBlock_320 : decode cX0_writeBlock 320 = .ok (.goto 4, 3) := by decide +kernel
theorem dX0_writeBlock_323 : decode cX0_writeBlock 323 = .ok (.iconst 0, 1) := by decide +kernel
theorem dX0_writeBlock_324 : decode cX0_writeBlock 324 = .ok (.iadd, 1) := by decide +kernel
theorem dX0_writeBlock_325 : decode cX0_writeBlock 325 = .ok (.istore 6, 2) := by decide +kernel
theorem dX0_writeBlock_327 : decode cX0_writeBlock 327 = .ok (.aload_n 0, 1) := by decide +kernel
theorem dX0_writeBlock_328 : decode cX0_writeBlock 328 = .ok (.getfield 29, 3) := by decide +kernel
theorem dX0_writeBlock_331 : decode cX0_writeBlock 331 = .ok (.iconst 1, 1) := by decide +kernel
theorem dX0_writeBlock_332 : decode cX0_writeBlock 332 = .ok (.iload 5, 2) := by decide +kernel
theorem dX0_writeBlock_334 : decode cX0_writeBlock 334 = .ok (.iconst 1, 1) := by decide +kernel
theorem dX0_writeBlock_335 : decode cX0_writeBlock 335 = .ok (.iadd, 1) := by decide +kernel
theorem dX0_writeBlock_336 : decode cX0_writeBlock 336 = .ok (.iload 6, 2) := by decide +kernel
theorem dX0_writeBlock_338 : decode cX0_writeBlock 338 = .ok (.iadd, 1) := by decide +kernel
theorem dX0_writeBlock_339 : decode cX0_writeBlock 339 = .ok (.invokevirtual 162, 3) := by decide +kernel
theorem dX0_writeBlock_342 : decode cX0_writeBlock 342 = .ok (.aload_n 0, 1) := by decide +kernel
theorem dX0_writeBlock_343 : decode cX0_writeBlock 343 = .ok (.getfield 29, 3) := by decide +kernel
theorem dX0_writeBlock_346 : decode cX0_writeBlock 346 = .ok (.iconst 4, 1) := by decide +kernel
theorem dX0_writeBlock_347 : decode cX0_writeBlock 347 = .ok (.aload_n 0, 1) := by decide +kernel
theorem dX0_writeBlock_348 : decode cX0_writeBlock 348 = .ok (.getfield 36, 3) := by decide +kernel
theorem dX0_writeBlock_351 : decode cX0_writeBlock 351 = .ok (.getfield 216, 3) := by decide +kernel
theorem dX0_writeBlock_354 : decode cX0_writeBlock 354 = .ok (.iload_n 2, 1) := by decide +kernel
theorem dX0_writeBlock_355 : decode cX0_writeBlock 355 = .ok (.iconst 5, 1) := by decide +kernel
theorem dX0_writeBlock_356 : decode cX0_writeBlock 356 = .ok (.iadd, 1) := by decide +kernel
theorem dX0_writeBlock_357 : decode cX0_writeBlock 357 = .ok (.iaload, 1) := by decide +kernel
theorem dX0_writeBlock_358 : decode cX0_writeBlock 358 = .ok (.invokevirtual 162, 3) := by decide +kernel
theorem dX0_writeBlock_361 : decode cX0_writeBlock 361 = .ok (.goto 37, 3) := by decide +kernel
theorem dX0_writeBlock_364 : decode cX0_writeBlock 364 = .ok (.aload_n 0, 1) := by decide +kernel
theorem dX0_writeBlock_365 : decode cX0_writeBlock 365 = .ok (.getfield 29, 3) := by decide +kernel
theorem dX0_writeBlock_368 : decode cX0_writeBlock 368 = .ok (.iconst 1, 1) := by decide +kernel
theorem dX0_writeBlock_369 : decode cX0_writeBlock 369 = .ok (.iload 5, 2) := by decide +kernel
theorem dX0_writeBlock_371 : decode cX0_writeBlock 371 = .ok (.invokevirtual 162, 3) := by decide +kernel
theorem dX0_writeBlock_374 : decode cX0_writeBlock 374 = .ok (.aload_n 0, 1) := by decide +kernel
theorem dX0_writeBlock_375 : decode cX0_writeBlock 375 = .ok (.iload_n 1, 1) := by decide +kernel
theorem dX0_writeBlock_376 : decode cX0_writeBlock 376 = .ok (.invokevirtual 572, 3) := by decide +kernel
theorem dX0_writeBlock_379 : decode cX0_writeBlock 379 = .ok (.aload_n 0, 1) := by decide +kernel
theorem dX0_writeBlock_380 : decode cX0_writeBlock 380 = .ok (.getfield 29, 3) := by decide +kernel
theorem dX0_writeBlock_383 : decode cX0_writeBlock 383 = .ok (.iconst 4, 1) := by decide +kernel
theorem dX0_writeBlock_384 : decode cX0_writeBlock 384 = .ok (.aload_n 0, 1) := by decide +kernel
theorem dX0_writeBlock_385 : decode cX0_writeBlock 385 = .ok (.getfield 36, 3) := by decide +kernel
theorem dX0_writeBlock_388 : decode cX0_writeBlock 388 = .ok (.getfield 216, 3) := by decide +kernel
theorem dX0_writeBlock_391 : decode cX0_writeBlock 391 = .ok (.iload_n 2, 1) := by decide +kernel
theorem dX0_writeBlock_392 : decode cX0_writeBlock 392 = .ok (.iconst 5, 1) := by decide +kernel
theorem dX0_writeBlock_393 : decode cX0_writeBlock 393 = .ok (.iadd, 1) := by decide +kernel
theorem dX0_writeBlock_394 : decode cX0_writeBlock 394 = .ok (.iaload, 1) := by decide +kernel
theorem dX0_writeBlock_395 : decode cX0_writeBlock 395 = .ok (.invokevirtual 162, 3) := by decide +kernel
theorem dX0_writeBlock_398 : decode cX0_writeBlock 398 = .ok (.return_, 1) := by decide +kernel
noncomputable def FX0_writeBlock (G : GG) (M : DD) (a : Nat) (p0 : Int32) : Option (NN × DD) :=
  ltt ((((8 : Int32)) * p0)) fun x1 =>
  dr (xt G []) 9 ((M.2 a 3)) fun b2 =>
  dr (xt G []) 3 ((M.2 b2 1)) fun b3 =>
  dr (xt G []) 13 ((M.2 b3 0)) fun b4 =>
  chk (¬ (((1 : Int32)) < 0 ∨ (xt G []).2.2 b4 ≤ ((1 : Int32)).toNatClampNeg)) <|
  ltt (M.1 b4 ((1 : Int32)).toNatClampNeg) fun x5 =>
  ltt ((x1 + ((0 : Int32)))) fun x6 =>
  dr (xt G []) 13 ((M.2 b2 6)) fun b7 =>
  chk (¬ (x6 < 0 ∨ (xt G []).2.2 b7 ≤ x6.toNatClampNeg)) <|
  ltt (M.1 b7 x6.toNatClampNeg) fun x8 =>
  bnd (if x5 = ((2 : Int32)) then (bnd (FX0_isSkipped (xt G []) M a p0) fun y140 =>
  bnd (if y140.2 = ((0 : Int32)) then (bnd (if x5 = ((2 : Int32)) then (some ([], y140.1)) else
  (dr (xt G []) 10 ((y140.1.2 a 2)) fun b153 =>
  ltt (y140.1.1 b153 3) fun x154 =>
  bnd (FX10_ue (xt G []) y140.1 b153 ((0 : Int32)) x154) fun y155 =>
  app y155.1 <|
  ltt ([] ++ y155.1) fun L157 =>
  dr (xt G L157) 10 ((y155.2.2 a 2)) fun b160 =>
  ltt (uI y155.2 b160 3 ((0 : Int32))) fun M161 =>
  some ([], M161))) fun (y147 : NN × DD) =>
  app y147.1 <|
  ltt ([] ++ y147.1) fun L149 =>
  some ([], y147.2)) else
  (dr (xt G []) 10 ((y140.1.2 a 2)) fun b162 =>
  ltt (y140.1.1 b162 3) fun x163 =>
  ltt ((x163 + ((1 : Int32)))) fun x164 =>
  ltt (uI y140.1 b162 3 x164) fun M165 =>
  some ([], M165))) fun (y141 : NN × DD) =>
  app y141.1 <|
  ltt ([] ++ y141.1) fun L143 =>
  some ([], y141.2)) else
  (dr (xt G []) 13 ((M.2 b2 2)) fun b166 =>
  chk (¬ (((1 : Int32)) < 0 ∨ (xt G []).2.2 b166 ≤ ((1 : Int32)).toNatClampNeg)) <|
  ltt (M.1 b166 ((1 : Int32)).toNatClampNeg) fun x167 =>
  bnd (if x167 = ((1 : Int32)) then (bnd (FX0_isSkipped (xt G []) M a p0) fun y200 =>
  bnd (if y200.2 = ((0 : Int32)) then (some ((0 : Int64))) else
  (some ((1 : Int64)))) fun (y201 : Int64) =>
  dr (xt G []) 10 ((M.2 a 2)) fun b202 =>
  bnd (FX10_code (xt G []) y200.1 b202 ((0 : Int32)) y201 ((1 : Int32))) fun y203 =>
  app y203.1 <|
  ltt ([] ++ y203.1) fun L205 =>
  some ([], y203.2)) else
  (bnd (FX0_isSkipped (xt G []) M a p0) fun y174 =>
  bnd (if y174.2 = ((0 : Int32)) then (bnd (if x5 = ((2 : Int32)) then (some ([], y174.1)) else
  (dr (xt G []) 10 ((y174.1.2 a 2)) fun b187 =>
  ltt (y174.1.1 b187 3) fun x188 =>
  bnd (FX10_ue (xt G []) y174.1 b187 ((0 : Int32)) x188) fun y189 =>
  app y189.1 <|
  ltt ([] ++ y189.1) fun L191 =>
  dr (xt G L191) 10 ((y189.2.2 a 2)) fun b194 =>
  ltt (uI y189.2 b194 3 ((0 : Int32))) fun M195 =>
  some ([], M195))) fun (y181 : NN × DD) =>
  app y181.1 <|
  ltt ([] ++ y181.1) fun L183 =>
  some ([], y181.2)) else
  (dr (xt G []) 10 ((y174.1.2 a 2)) fun b196 =>
  ltt (y174.1.1 b196 3) fun x197 =>
  ltt ((x197 + ((1 : Int32)))) fun x198 =>
  ltt (uI y174.1 b196 3 x198) fun M199 =>
  some ([], M199))) fun (y175 : NN × DD) =>
  app y175.1 <|
  ltt ([] ++ y175.1) fun L177 =>
  some ([], y175.2))) fun (y168 : NN × DD) =>
  app y168.1 <|
  ltt ([] ++ y168.1) fun L170 =>
  some ([], y168.2))) fun (y9 : NN × DD) =>
  app y9.1 <|
  ltt ([] ++ y9.1) fun L11 =>
  bnd (FX0_isSkipped (xt G L11) y9.2 a p0) fun y13 =>
  if y13.2 = ((0 : Int32)) then (bnd (if x5 = ((2 : Int32)) then (some ((0 : Int32))) else
  (bnd (if x5 = ((0 : Int32)) then (some ((5 : Int32))) else
  (some ((23 : Int32)))) fun (y136 : Int32) =>
  some (y136))) fun (y15 : Int32) =>
  bnd (if x8 = ((2 : Int32)) then (ltt ((y15 + ((25 : Int32)))) fun x121 =>
  dr (xt G L11) 10 ((y13.1.2 a 2)) fun b122 =>
  bnd (FX10_ue (xt G L11) y13.1 b122 ((1 : Int32)) x121) fun y123 =>
  app y123.1 <|
  ltt (L11 ++ y123.1) fun L125 =>
  dr (xt G L125) 6 ((y123.2.2 a 4)) fun b128 =>
  dr (xt G L125) 10 ((y123.2.2 a 2)) fun b129 =>
  bnd (FX10_rawSamples (xt G L125) y123.2 b129 ((y123.2.2 b128 0))) fun y130 =>
  app y130.1 <|
  ltt (L125 ++ y130.1) fun L132 =>
  some ([], y130.2)) else
  (bnd (if x8 = ((3 : Int32)) then (dr (xt G L11) 9 ((y13.1.2 a 3)) fun b87 =>
  ltt ((x1 + ((1 : Int32)))) fun x88 =>
  dr (xt G L11) 13 ((y13.1.2 b87 6)) fun b89 =>
  chk (¬ (x88 < 0 ∨ (xt G L11).2.2 b89 ≤ x88.toNatClampNeg)) <|
  ltt (y13.1.1 b89 x88.toNatClampNeg) fun x90 =>
  dr (xt G L11) 10 ((y13.1.2 a 2)) fun b91 =>
  bnd (FX10_ue (xt G L11) y13.1 b91 ((1 : Int32)) x90) fun y92 =>
  app y92.1 <|
  ltt (L11 ++ y92.1) fun L94 =>
  bnd (itrA (fun (s98 : NN × Int32 × DD) => ((if ((4 : Int32)) ≤ s98.2.1 then (some ([], .inr ((s98.2.1, s98.2.2)))) else
  (bnd (if x5 = ((0 : Int32)) then (some ((3 : Int32))) else
  (some ((22 : Int32)))) fun (y108 : Int32) =>
  if x90 = y108 then (dr (xt G s98.1) 9 ((s98.2.2.2 a 3)) fun b110 =>
  dr (xt G s98.1) 13 ((s98.2.2.2 b110 12)) fun b111 =>
  chk (¬ (s98.2.1 < 0 ∨ (xt G s98.1).2.2 b111 ≤ s98.2.1.toNatClampNeg)) <|
  ltt (s98.2.2.1 b111 s98.2.1.toNatClampNeg) fun x112 =>
  dr (xt G s98.1) 10 ((s98.2.2.2 a 2)) fun b113 =>
  bnd (FX10_ue (xt G s98.1) s98.2.2 b113 ((5 : Int32)) x112) fun y114 =>
  app y114.1 <|
  ltt (s98.1 ++ y114.1) fun L116 =>
  ltt (s98.2.1 + (1 : Int32)) fun x119 =>
  some ([], .inl (L116, (x119, y114.2)))) else
  (some ([], .inr ((s98.2.1, s98.2.2)))))) : Option (NN × ((NN × Int32 × DD) ⊕ (Int32 × DD))))) 1000000 (L94, ((0 : Int32), y92.2))) fun (y97 : NN × Int32 × DD) =>
  app y97.1 <|
  ltt (L94 ++ y97.1) fun L100 =>
  some ([], y97.2.2)) else
  (bnd (if x8 = ((1 : Int32)) then (dr (xt G L11) 9 ((y13.1.2 a 3)) fun b55 =>
  ltt ((((16 : Int32)) * p0)) fun x56 =>
  dr (xt G L11) 13 ((y13.1.2 b55 7)) fun b57 =>
  chk (¬ (x56 < 0 ∨ (xt G L11).2.2 b57 ≤ x56.toNatClampNeg)) <|
  ltt (y13.1.1 b57 x56.toNatClampNeg) fun x58 =>
  ltt ((x1 + ((4 : Int32)))) fun x59 =>
  dr (xt G L11) 13 ((y13.1.2 b55 6)) fun b60 =>
  chk (¬ (x59 < 0 ∨ (xt G L11).2.2 b60 ≤ x59.toNatClampNeg)) <|
  ltt (y13.1.1 b60 x59.toNatClampNeg) fun x61 =>
  ltt ((((4 : Int32)) * x61)) fun x62 =>
  ltt ((x58 + x62)) fun x63 =>
  ltt ((x1 + ((3 : Int32)))) fun x64 =>
  chk (¬ (x64 < 0 ∨ (xt G L11).2.2 b60 ≤ x64.toNatClampNeg)) <|
  ltt (y13.1.1 b60 x64.toNatClampNeg) fun x65 =>
  bnd (if x65 ≤ ((0 : Int32)) then (some ((0 : Int32))) else
  (some ((12 : Int32)))) fun (y66 : Int32) =>
  ltt ((x63 + y66)) fun x67 =>
  ltt ((y15 + ((1 : Int32)))) fun x68 =>
  ltt ((x68 + x67)) fun x69 =>
  dr (xt G L11) 10 ((y13.1.2 a 2)) fun b70 =>
  bnd (FX10_ue (xt G L11) y13.1 b70 ((1 : Int32)) x69) fun y71 =>
  app y71.1 <|
  ltt (L11 ++ y71.1) fun L73 =>
  dr (xt G L73) 9 ((y71.2.2 a 3)) fun b76 =>
  ltt ((x1 + ((5 : Int32)))) fun x77 =>
  dr (xt G L73) 13 ((y71.2.2 b76 6)) fun b78 =>
  chk (¬ (x77 < 0 ∨ (xt G L73).2.2 b78 ≤ x77.toNatClampNeg)) <|
  ltt (y71.2.1 b78 x77.toNatClampNeg) fun x79 =>
  dr (xt G L73) 10 ((y71.2.2 a 2)) fun b80 =>
  bnd (FX10_ue (xt G L73) y71.2 b80 ((4 : Int32)) x79) fun y81 =>
  app y81.1 <|
  ltt (L73 ++ y81.1) fun L83 =>
  some ([], y81.2)) else
  (dr (xt G L11) 10 ((y13.1.2 a 2)) fun b34 =>
  bnd (FX10_ue (xt G L11) y13.1 b34 ((1 : Int32)) y15) fun y35 =>
  app y35.1 <|
  ltt (L11 ++ y35.1) fun L37 =>
  bnd (FX0_writeModes (xt G L37) y35.2 a p0) fun y40 =>
  app y40.1 <|
  ltt (L37 ++ y40.1) fun L42 =>
  dr (xt G L42) 9 ((y40.2.2 a 3)) fun b45 =>
  ltt ((x1 + ((5 : Int32)))) fun x46 =>
  dr (xt G L42) 13 ((y40.2.2 b45 6)) fun b47 =>
  chk (¬ (x46 < 0 ∨ (xt G L42).2.2 b47 ≤ x46.toNatClampNeg)) <|
  ltt (y40.2.1 b47 x46.toNatClampNeg) fun x48 =>
  dr (xt G L42) 10 ((y40.2.2 a 2)) fun b49 =>
  bnd (FX10_ue (xt G L42) y40.2 b49 ((4 : Int32)) x48) fun y50 =>
  app y50.1 <|
  ltt (L42 ++ y50.1) fun L52 =>
  some ([], y50.2))) fun (y28 : NN × DD) =>
  app y28.1 <|
  ltt (L11 ++ y28.1) fun L30 =>
  some ([], y28.2))) fun (y22 : NN × DD) =>
  app y22.1 <|
  ltt (L11 ++ y22.1) fun L24 =>
  some ([], y22.2))) fun (y16 : NN × DD) =>
  app y16.1 <|
  ltt (L11 ++ y16.1) fun L18 =>
  some ([], y16.2)) else
  (some ([], y13.1))
set_option maxHeartbeats 4000000 in
set_option maxRecDepth 100000 in
theorem kX0_writeBlock (l : Launch) (D : va_G) (ct : CT) (ad : Nat → Nat) (Z : Nat → Nat) (G : GG) (M : DD) (sz : Nat) (a : Nat) (p0 : Int32) (y : NN × DD) (hc : a < G.1) (hk : G.2.1 a = 0) (hF : FX0_writeBlock G M a p0 = some y) : Met l yX0_writeBlock wsX0_writeBlock ({ frames := 6, cells := y.1.length, slots := wt y.1, locals := 199 }) (va_Pc [.ref (ad a), .int p0] (kB D ct ad Z G M sz)) (va_Qv (fun (u : Nat → Nat) => agr G.1 ad u) (fun u t => kE D ct u (xt G y.1) (wA ad G sz) y.2 t) (wA ad G sz)) y.1.length (wt y.1) (wA ad G sz) := by
  refine Met.ofW (cc := cX0_writeBlock) (maxL := 8) (ret := none) (by decide) rfl ?_
  intro p e s m args below meth c s₁ B hml hv
  obtain ⟨rfl, hsz, hP, hK, hD0, hZ, hN⟩ := hv
  have hx := B.exec
  have hb := B.bytes
  have hr := B.returns
  have hts := atoms_spec (ws := wsX0_writeBlock) B.pre
  have hown : s.vm.findClass RX0 = some m.cls := findClass_of_methodNamed B.named
  have hlocks := B.notSynchronized
  subst hsz
  have hD := wD_self (sz := s.heap.size) hD0
  have hA9 : ∀ q, s.heap.size ≤ q → wA ad G s.heap.size q := fun q h => Or.inr h
  generalize hAe : wA ad G s.heap.size = A at hD hA9 hZ ⊢
  have hS : va_S A s.heap s.heap [] := va_S.rf
  have hl := lv_entry ([.ref (ad a), .int p0]) (n := 8) (Nat.le_of_ble_eq_true rfl)
  rw [lg_entry_eq]
  generalize (lg_sl ([.ref (ad a), .int p0]) ++ List.replicate (8 - (lg_sl ([.ref (ad a), .int p0])).length) Slot.unset).toArray = ls at hl ⊢
  have hl : lv_has ls 8 [(0, .ref (ad a)), (1, .int p0)] := hl
  unfold FX0_writeBlock at hF
  rw [← wld_0 ct ad G M] at hP hD
  have hk := xt_k0 hc hk
  have hc := xt_l0 hc
  have hag := agr_rf G.1 ad
  obtain ⟨w0, hw0⟩ : ∃ z, z = y := ⟨_, rfl⟩
  rw [← hw0] at hF
  have hT : y.1 = [] ++ w0.1 := by rw [hw0]; rfl
  have h2 : y.2 = w0.2 := by rw [hw0]
  have hbl : y.1.length ≤ y.1.length ∧ wt y.1 ≤ wt y.1 := ⟨Nat.le_refl _, Nat.le_refl _⟩
  refine lv_bipush (v := (8 : Int32)) hx hb dX0_writeBlock_0 (by decide) ?_
  refine lv_iload_n hx hb dX0_writeBlock_2 rfl (lv_at hl 1 rfl) ?_
  refine lv_imul hx hb dX0_writeBlock_3 ?_
  obtain ⟨x1, ex1, hF⟩ := ltt_some hF
  refine lv_topi (fun zx1 ezx1 => ?_)
  obtain rfl : x1 = zx1 := ex1.trans ezx1.symm
  refine lv_istore_n (lv' := [(2, .int x1), (0, .ref (ad a)), (1, .int p0)]) hx hb dX0_writeBlock_4 rfl hl (by decide) rfl (fun ls hl => ?_)
  refine lv_aload_n hx hb dX0_writeBlock_5 rfl (lv_at hl 1 rfl) ?_
  refine va_get (D := D) (ci := 0) (v := va_re ad (M.2 a 3)) (C := RX0) (T := TX0) (N := 21) hx hb hts (by decide +kernel) hown hK hP a (wld_o ct ad (xt G []) M hc hk (by decide)) rfl 3 (by decide) (hts (.fieldLink RX0 36 "VideoSuite$Coder" "work" "LVideoSuite$Work;") (by decide +kernel)) (fun _ h9 => h9) rfl dX0_writeBlock_6 ?_
  obtain ⟨b2, ho2, hc2, hk2, hF⟩ := dr_some hF
  refine W_st (st' := [.ref (ad b2)]) (by rw [va_some ho2]) ?_
  refine va_get (D := D) (ci := 9) (v := va_re ad (M.2 b2 1)) (C := RX9) (T := TX9) (N := 20) hx hb hts (by decide +kernel) hown hK hP b2 (wld_o ct ad (xt G []) M hc2 hk2 (by decide)) rfl 1 (by decide) (hts (.fieldLink RX0 81 "VideoSuite$Work" "head" "LVideoSuite$Header;") (by decide +kernel)) (fun _ h9 => h9) rfl dX0_writeBlock_9 ?_
  obtain ⟨b3, ho3, hc3, hk3, hF⟩ := dr_some hF
  refine W_st (st' := [.ref (ad b3)]) (by rw [va_some ho3]) ?_
  refine va_get (D := D) (ci := 3) (v := va_re ad (M.2 b3 0)) (C := RX3) (T := TX3) (N := 4) hx hb hts (by decide +kernel) hown hK hP b3 (wld_o ct ad (xt G []) M hc3 hk3 (by decide)) rfl 0 (by decide) (hts (.fieldLink RX0 252 "VideoSuite$Header" "v" "[I") (by decide +kernel)) (fun _ h9 => h9) rfl dX0_writeBlock_12 ?_
  refine lv_iconst (v := (1 : Int32)) hx hb dX0_writeBlock_15 (by decide) ?_
  obtain ⟨b4, ho4, hc4, hk4, hF⟩ := dr_some hF
  refine W_st (st' := [.int (1 : Int32), .ref (ad b4)]) (by rw [va_some ho4]) ?_
  obtain ⟨hvc, hF⟩ := chk_some hF
  refine va_iald hx hb hK hP b4 1 (wld_i ct ad (xt G []) M hc4 hk4) rfl hvc dX0_writeBlock_16 ?_
  obtain ⟨x5, ex5, hF⟩ := ltt_some hF
  refine lv_topi (fun zx5 ezx5 => ?_)
  obtain rfl : x5 = zx5 := ex5.trans ezx5.symm
  refine lv_istore_n (lv' := [(3, .int x5), (2, .int x1), (0, .ref (ad a)), (1, .int p0)]) hx hb dX0_writeBlock_17 rfl hl (by decide) rfl (fun ls hl => ?_)
  refine lv_aload_n hx hb dX0_writeBlock_18 rfl (lv_at hl 2 rfl) ?_
  refine va_get (D := D) (ci := 0) (v := va_re ad (M.2 a 3)) (C := RX0) (T := TX0) (N := 21) hx hb hts (by decide +kernel) hown hK hP a (wld_o ct ad (xt G []) M hc hk (by decide)) rfl 3 (by decide) (hts (.fieldLink RX0 36 "VideoSuite$Coder" "work" "LVideoSuite$Work;") (by decide +kernel)) (fun _ h9 => h9) rfl dX0_writeBlock_19 ?_
  refine W_st (st' := [.ref (ad b2)]) (by rw [va_some ho2]) ?_
  refine va_get (D := D) (ci := 9) (v := va_re ad (M.2 b2 6)) (C := RX9) (T := TX9) (N := 20) hx hb hts (by decide +kernel) hown hK hP b2 (wld_o ct ad (xt G []) M hc2 hk2 (by decide)) rfl 6 (by decide) (hts (.fieldLink RX0 216 "VideoSuite$Work" "info" "[I") (by decide +kernel)) (fun _ h9 => h9) rfl dX0_writeBlock_22 ?_
  refine lv_iload_n hx hb dX0_writeBlock_25 rfl (lv_at hl 1 rfl) ?_
  refine lv_iconst (v := (0 : Int32)) hx hb dX0_writeBlock_26 (by decide) ?_
  refine lv_iadd hx hb dX0_writeBlock_27 ?_
  obtain ⟨x6, ex6, hF⟩ := ltt_some hF
  refine lv_topi (fun zx6 ezx6 => ?_)
  obtain rfl : x6 = zx6 := ex6.trans ezx6.symm
  obtain ⟨b7, ho7, hc7, hk7, hF⟩ := dr_some hF
  refine W_st (st' := [.int x6, .ref (ad b7)]) (by rw [va_some ho7]) ?_
  obtain ⟨hvc, hF⟩ := chk_some hF
  refine va_iald hx hb hK hP b7 1 (wld_i ct ad (xt G []) M hc7 hk7) rfl hvc dX0_writeBlock_28 ?_
  obtain ⟨x8, ex8, hF⟩ := ltt_some hF
  refine lv_topi (fun zx8 ezx8 => ?_)
  obtain rfl : x8 = zx8 := ex8.trans ezx8.symm
  refine lv_istore (lv' := [(4, .int x8), (3, .int x5), (2, .int x1), (0, .ref (ad a)), (1, .int p0)]) hx hb dX0_writeBlock_29 hl (by decide) rfl (fun ls hl => ?_)
  refine lv_iload_n hx hb dX0_writeBlock_31 rfl (lv_at hl 1 rfl) ?_
  refine lv_iconst (v := (2 : Int32)) hx hb dX0_writeBlock_32 (by decide) ?_
  obtain ⟨y9, hy9, hF⟩ := bnd_some hF
  obtain ⟨w10, hF, ew10⟩ := app_some hF
  obtain ⟨L11, eL11, hF⟩ := ltt_some hF
  have hT11 : y.1 = ([] ++ y9.1) ++ w10.1 := by rw [hT, ew10]; simp only [List.append_assoc]
  have hbl11 : L11.length ≤ y.1.length ∧ wt L11 ≤ wt y.1 := by rw [eL11]; exact room_d hT11 hbl
  have J9 : ∀ (ad12 : Nat → Nat), agr G.1 ad ad12 → ∀ (H : Heap) (locs : List Loc) (ls : Array Slot), va_P D classes (wld ct ad12 (xt G L11) y9.2) H → va_D A (wld ct ad12 (xt G L11) y9.2) → va_S A s.heap H locs → lv_has ls 8 [(4, .int x8), (3, .int x5), (2, .int x1), (0, .ref (ad12 a)), (1, .int p0)] → W p l e (headSpec wsX0_writeBlock ({ frames := 6, cells := y.1.length, slots := wt y.1, locals := 199 })).room s m ([.ref (ad a), .int p0] : List Value).toArray below meth c H locs (L11 : NN).length (wt L11) (MQ below (va_Qv (fun (u : Nat → Nat) => agr G.1 ad u) (fun u t => kE D ct u (xt G y.1) A y.2 t) A) ([.ref (ad a), .int p0] : List Value).toArray s y.1.length (wt y.1) A) (F0 m 126 ls []) := by
    intro ad12 hag H locs ls hP hD hS hl
    have hT : y.1 = L11 ++ w10.1 := by rw [hT11, eL11]
    have h2 : y.2 = w10.2 := by rw [h2, ew10]
    have hk : (xt G L11).2.1 a = 0 := by rw [eL11]; exact xt_k _ hc hk
    have hc : a < (xt G L11).1 := by rw [eL11]; exact xt_l _ hc
    have hk2 : (xt G L11).2.1 b2 = 9 := by rw [eL11]; exact xt_k _ hc2 hk2
    have hc2 : b2 < (xt G L11).1 := by rw [eL11]; exact xt_l _ hc2
    have hk3 : (xt G L11).2.1 b3 = 3 := by rw [eL11]; exact xt_k _ hc3 hk3
    have hc3 : b3 < (xt G L11).1 := by rw [eL11]; exact xt_l _ hc3
    have hk4 : (xt G L11).2.1 b4 = 13 := by rw [eL11]; exact xt_k _ hc4 hk4
    have hc4 : b4 < (xt G L11).1 := by rw [eL11]; exact xt_l _ hc4
    have hk7 : (xt G L11).2.1 b7 = 13 := by rw [eL11]; exact xt_k _ hc7 hk7
    have hc7 : b7 < (xt G L11).1 := by rw [eL11]; exact xt_l _ hc7
    refine lv_aload_n hx hb dX0_writeBlock_126 rfl (lv_at hl 3 rfl) ?_
    refine lv_iload_n hx hb dX0_writeBlock_127 rfl (lv_at hl 4 rfl) ?_
    obtain ⟨y13, hy13, hF⟩ := bnd_some hF
    have hf9 := wA_in hD hA9 hS
    refine va_calli (va_runV (As := [.int p0]) (rest := []) ⟨hx, hb, hml, hown, hts⟩ (kX0_isSkipped l D ct ad12 Z (xt G L11) y9.2 H.size a p0 y13 hc hk hy13) (cwV 1 hts gX0_writeBlock_X0_isSkipped rfl rfl rfl (by decide +kernel) ⟨Nat.le_of_ble_eq_true rfl, Nat.le_of_ble_eq_true rfl⟩) ⟨fun a U g mk q => by obtain ⟨q0, q1, qP, qK, qD, qZ, qN⟩ := q; exact ⟨q0, q1, qP, va_K.moved (u := U) (U := U.calling g mk a) (Vm.Alike.refl U.vm) qK, qD, sF.moved (u := U) (U := U.calling g mk a) (Vm.Alike.refl U.vm) qZ, nF.same rfl qN⟩, va_recv hK hP (ci := 0) (q0 := a) rfl (wld_o ct ad12 (xt G L11) y9.2 hc hk (by decide)), fun U hU hW => ⟨rfl, by rw [hU], by rw [hU]; exact hP, va_K.moved hW.alike hK, hD.weaken (fun _ _ _ _ => trivial), by rw [hU]; exact ((hZ.kept hS.2.1).narrow hf9).moved hW.alike, hN.warm hW⟩⟩ rfl rfl hl.1 rfl (lv_room (Nat.le_of_ble_eq_true rfl)) dX0_writeBlock_128 (room_d hT hbl)) hS (fun q _ h => hf9 q h) hf9 (fun r u t H locs ht hvm hw hB hz1 hk1 hS => ?_)
    obtain ⟨hP, hK9, hD9⟩ := hB
    rw [ht] at hP
    try dsimp only at hw
    subst hw
    refine W_cs (k := (L11 : NN).length) (n := wt L11) rfl rfl ?_
    have hD := hD9.weaken (fun _ q _ h => hf9 q.1 h)
    refine lv_if_eq (tgt := 135) hx hb dX0_writeBlock_131 (by decide) (fun c14 => ?_) (fun c14 => ?_)
    · rw [if_pos c14] at hF
      refine lv_iload_n hx hb dX0_writeBlock_135 rfl (lv_at hl 1 rfl) ?_
      refine lv_iconst (v := (2 : Int32)) hx hb dX0_writeBlock_136 (by decide) ?_
      obtain ⟨y15, hy15, hF⟩ := bnd_some hF
      have J15 : ∀ (H : Heap) (locs : List Loc) (ls : Array Slot), va_P D classes (wld ct ad12 (xt G L11) y13.1) H → va_D A (wld ct ad12 (xt G L11) y13.1) → va_S A s.heap H locs → lv_has ls 8 [(4, .int x8), (3, .int x5), (2, .int x1), (0, .ref (ad12 a)), (1, .int p0)] → W p l e (headSpec wsX0_writeBlock ({ frames := 6, cells := y.1.length, slots := wt y.1, locals := 199 })).room s m ([.ref (ad a), .int p0] : List Value).toArray below meth c H locs (L11 : NN).length (wt L11) (MQ below (va_Qv (fun (u : Nat → Nat) => agr G.1 ad u) (fun u t => kE D ct u (xt G y.1) A y.2 t) A) ([.ref (ad a), .int p0] : List Value).toArray s y.1.length (wt y.1) A) (F0 m 154 ls [.int y15]) := by
        intro H locs ls hP hD hS hl
        refine lv_istore (lv' := [(5, .int y15), (4, .int x8), (3, .int x5), (2, .int x1), (0, .ref (ad12 a)), (1, .int p0)]) hx hb dX0_writeBlock_154 hl (by decide) rfl (fun ls hl => ?_)
        refine lv_iload hx hb dX0_writeBlock_156 (lv_at hl 1 rfl) ?_
        refine lv_iconst (v := (2 : Int32)) hx hb dX0_writeBlock_158 (by decide) ?_
        obtain ⟨y16, hy16, hF⟩ := bnd_some hF
        obtain ⟨w17, hF, ew17⟩ := app_some hF
        obtain ⟨L18, eL18, hF⟩ := ltt_some hF
        have hT18 : y.1 = (L11 ++ y16.1) ++ w17.1 := by rw [hT, ew17]; simp only [List.append_assoc]
        have hbl18 : L18.length ≤ y.1.length ∧ wt L18 ≤ wt y.1 := by rw [eL18]; exact room_d hT18 hbl
        have J16 : ∀ (ad19 : Nat → Nat), agr G.1 ad ad19 → ∀ (H : Heap) (locs : List Loc) (ls : Array Slot), va_P D classes (wld ct ad19 (xt G L18) y16.2) H → va_D A (wld ct ad19 (xt G L18) y16.2) → va_S A s.heap H locs → lv_has ls 8 [] → W p l e (headSpec wsX0_writeBlock ({ frames := 6, cells := y.1.length, slots := wt y.1, locals := 199 })).room s m ([.ref (ad a), .int p0] : List Value).toArray below meth c H locs (L18 : NN).length (wt L18) (MQ below (va_Qv (fun (u : Nat → Nat) => agr G.1 ad u) (fun u t => kE D ct u (xt G y.1) A y.2 t) A) ([.ref (ad a), .int p0] : List Value).toArray s y.1.length (wt y.1) A) (F0 m 398 ls []) := by
          intro ad19 hag H locs ls hP hD hS hl
          have hT : y.1 = L18 ++ w17.1 := by rw [hT18, eL18]
          have h2 : y.2 = w17.2 := by rw [h2, ew17]
          have hk : (xt G L18).2.1 a = 0 := by rw [eL18]; exact xt_k _ hc hk
          have hc : a < (xt G L18).1 := by rw [eL18]; exact xt_l _ hc
          have hk2 : (xt G L18).2.1 b2 = 9 := by rw [eL18]; exact xt_k _ hc2 hk2
          have hc2 : b2 < (xt G L18).1 := by rw [eL18]; exact xt_l _ hc2
          have hk3 : (xt G L18).2.1 b3 = 3 := by rw [eL18]; exact xt_k _ hc3 hk3
          have hc3 : b3 < (xt G L18).1 := by rw [eL18]; exact xt_l _ hc3
          have hk4 : (xt G L18).2.1 b4 = 13 := by rw [eL18]; exact xt_k _ hc4 hk4
          have hc4 : b4 < (xt G L18).1 := by rw [eL18]; exact xt_l _ hc4
          have hk7 : (xt G L18).2.1 b7 = 13 := by rw [eL18]; exact xt_k _ hc7 hk7
          have hc7 : b7 < (xt G L18).1 := by rw [eL18]; exact xt_l _ hc7
          obtain rfl := Option.some.inj hF
          have e1 : y.1 = L18 := by rw [hT]; exact List.append_nil _
          have e2 : y.2 = y16.2 := h2
          refine W.widen (k := y.1.length) (n := wt y.1) (Nat.le_of_eq (by rw [e1])) (Nat.le_of_eq (by rw [e1])) ?_
          exact W.vret hx hb hr (fun t ht hW => ⟨⟨ad19, rfl, hag, (by unfold kE; rw [e1, e2]; exact ⟨by rw [ht]; exact hP, va_K.moved hW.alike hK, hD⟩)⟩, hS.F ht⟩) hS.2.2 dX0_writeBlock_398
        clear hF
        obtain ⟨w20, hw20⟩ : ∃ z, z = y16 := ⟨_, rfl⟩
        have hF := hy16
        rw [← hw20] at hF
        clear hy16
        have hT : L18 = L11 ++ w20.1 := by rw [eL18, hw20]
        have h2 : y16.2 = w20.2 := by rw [hw20]
        have hbl := hbl18
        refine lv_icmp_ne (tgt := 192) hx hb dX0_writeBlock_159 (by decide) (fun c21 => ?_) (fun c21 => ?_)
        · rw [if_neg c21] at hF
          refine lv_iload hx hb dX0_writeBlock_192 (lv_at hl 1 rfl) ?_
          refine lv_iconst (v := (3 : Int32)) hx hb dX0_writeBlock_194 (by decide) ?_
          obtain ⟨y22, hy22, hF⟩ := bnd_some hF
          obtain ⟨w23, hF, ew23⟩ := app_some hF
          obtain ⟨L24, eL24, hF⟩ := ltt_some hF
          have hT24 : L18 = (L11 ++ y22.1) ++ w23.1 := by rw [hT, ew23]; simp only [List.append_assoc]
          have hbl24 : L24.length ≤ y.1.length ∧ wt L24 ≤ wt y.1 := by rw [eL24]; exact room_d hT24 hbl
          have J22 : ∀ (ad25 : Nat → Nat), agr G.1 ad ad25 → ∀ (H : Heap) (locs : List Loc) (ls : Array Slot), va_P D classes (wld ct ad25 (xt G L24) y22.2) H → va_D A (wld ct ad25 (xt G L24) y22.2) → va_S A s.heap H locs → lv_has ls 8 [] → W p l e (headSpec wsX0_writeBlock ({ frames := 6, cells := y.1.length, slots := wt y.1, locals := 199 })).room s m ([.ref (ad a), .int p0] : List Value).toArray below meth c H locs (L24 : NN).length (wt L24) (MQ below (va_Qv (fun (u : Nat → Nat) => agr G.1 ad u) (fun u t => kE D ct u (xt G y.1) A y.2 t) A) ([.ref (ad a), .int p0] : List Value).toArray s y.1.length (wt y.1) A) (F0 m 398 ls []) := by
            intro ad25 hag H locs ls hP hD hS hl
            have hT : L18 = L24 ++ w23.1 := by rw [hT24, eL24]
            have h2 : y16.2 = w23.2 := by rw [h2, ew23]
            have hk : (xt G L24).2.1 a = 0 := by rw [eL24]; exact xt_k _ hc hk
            have hc : a < (xt G L24).1 := by rw [eL24]; exact xt_l _ hc
            have hk2 : (xt G L24).2.1 b2 = 9 := by rw [eL24]; exact xt_k _ hc2 hk2
            have hc2 : b2 < (xt G L24).1 := by rw [eL24]; exact xt_l _ hc2
            have hk3 : (xt G L24).2.1 b3 = 3 := by rw [eL24]; exact xt_k _ hc3 hk3
            have hc3 : b3 < (xt G L24).1 := by rw [eL24]; exact xt_l _ hc3
            have hk4 : (xt G L24).2.1 b4 = 13 := by rw [eL24]; exact xt_k _ hc4 hk4
            have hc4 : b4 < (xt G L24).1 := by rw [eL24]; exact xt_l _ hc4
            have hk7 : (xt G L24).2.1 b7 = 13 := by rw [eL24]; exact xt_k _ hc7 hk7
            have hc7 : b7 < (xt G L24).1 := by rw [eL24]; exact xt_l _ hc7
            obtain rfl := Option.some.inj hF
            have e1 : L18 = L24 := by rw [hT]; exact List.append_nil _
            have e2 : y16.2 = y22.2 := h2
            rw [e1] at J16
            try rw [e2] at J16
            exact J16 _ hag _ _ _ hP hD hS (lv_sub hl [] rfl)
          clear hF
          obtain ⟨w26, hw26⟩ : ∃ z, z = y22 := ⟨_, rfl⟩
          have hF := hy22
          rw [← hw26] at hF
          clear hy22
          have hT : L24 = L11 ++ w26.1 := by rw [eL24, hw26]
          have h2 : y22.2 = w26.2 := by rw [hw26]
          have hbl := hbl24
          refine lv_icmp_ne (tgt := 272) hx hb dX0_writeBlock_195 (by decide) (fun c27 => ?_) (fun c27 => ?_)
          · rw [if_neg c27] at hF
            refine lv_iload hx hb dX0_writeBlock_272 (lv_at hl 1 rfl) ?_
            refine lv_iconst (v := (1 : Int32)) hx hb dX0_writeBlock_274 (by decide) ?_
            obtain ⟨y28, hy28, hF⟩ := bnd_some hF
            obtain ⟨w29, hF, ew29⟩ := app_some hF
            obtain ⟨L30, eL30, hF⟩ := ltt_some hF
            have hT30 : L24 = (L11 ++ y28.1) ++ w29.1 := by rw [hT, ew29]; simp only [List.append_assoc]
            have hbl30 : L30.length ≤ y.1.length ∧ wt L30 ≤ wt y.1 := by rw [eL30]; exact room_d hT30 hbl
            have J28 : ∀ (ad31 : Nat → Nat), agr G.1 ad ad31 → ∀ (H : Heap) (locs : List Loc) (ls : Array Slot), va_P D classes (wld ct ad31 (xt G L30) y28.2) H → va_D A (wld ct ad31 (xt G L30) y28.2) → va_S A s.heap H locs → lv_has ls 8 [] → W p l e (headSpec wsX0_writeBlock ({ frames := 6, cells := y.1.length, slots := wt y.1, locals := 199 })).room s m ([.ref (ad a), .int p0] : List Value).toArray below meth c H locs (L30 : NN).length (wt L30) (MQ below (va_Qv (fun (u : Nat → Nat) => agr G.1 ad u) (fun u t => kE D ct u (xt G y.1) A y.2 t) A) ([.ref (ad a), .int p0] : List Value).toArray s y.1.length (wt y.1) A) (F0 m 398 ls []) := by
              intro ad31 hag H locs ls hP hD hS hl
              have hT : L24 = L30 ++ w29.1 := by rw [hT30, eL30]
              have h2 : y22.2 = w29.2 := by rw [h2, ew29]
              have hk : (xt G L30).2.1 a = 0 := by rw [eL30]; exact xt_k _ hc hk
              have hc : a < (xt G L30).1 := by rw [eL30]; exact xt_l _ hc
              have hk2 : (xt G L30).2.1 b2 = 9 := by rw [eL30]; exact xt_k _ hc2 hk2
              have hc2 : b2 < (xt G L30).1 := by rw [eL30]; exact xt_l _ hc2
              have hk3 : (xt G L30).2.1 b3 = 3 := by rw [eL30]; exact xt_k _ hc3 hk3
              have hc3 : b3 < (xt G L30).1 := by rw [eL30]; exact xt_l _ hc3
              have hk4 : (xt G L30).2.1 b4 = 13 := by rw [eL30]; exact xt_k _ hc4 hk4
              have hc4 : b4 < (xt G L30).1 := by rw [eL30]; exact xt_l _ hc4
              have hk7 : (xt G L30).2.1 b7 = 13 := by rw [eL30]; exact xt_k _ hc7 hk7
              have hc7 : b7 < (xt G L30).1 := by rw [eL30]; exact xt_l _ hc7
              obtain rfl := Option.some.inj hF
              have e1 : L24 = L30 := by rw [hT]; exact List.append_nil _
              have e2 : y22.2 = y28.2 := h2
              rw [e1] at J22
              try rw [e2] at J22
              exact J22 _ hag _ _ _ hP hD hS (lv_sub hl [] rfl)
            clear hF
            obtain ⟨w32, hw32⟩ : ∃ z, z = y28 := ⟨_, rfl⟩
            have hF := hy28
            rw [← hw32] at hF
            clear hy28
            have hT : L30 = L11 ++ w32.1 := by rw [eL30, hw32]
            have h2 : y28.2 = w32.2 := by rw [hw32]
            have hbl := hbl30
            refine lv_icmp_ne (tgt := 364) hx hb dX0_writeBlock_275 (by decide) (fun c33 => ?_) (fun c33 => ?_)
            · rw [if_neg c33] at hF
              refine lv_aload_n hx hb dX0_writeBlock_364 rfl (lv_at hl 4 rfl) ?_
              refine va_get (D := D) (ci := 0) (v := va_re ad12 (y13.1.2 a 2)) (C := RX0) (T := TX0) (N := 21) hx hb hts (by decide +kernel) hown hK hP a (wld_o ct ad12 (xt G L11) y13.1 hc hk (by decide)) rfl 2 (by decide) (hts (.fieldLink RX0 29 "VideoSuite$Coder" "writer" "LVideoSuite$Writer;") (by decide +kernel)) (fun _ h9 => h9) rfl dX0_writeBlock_365 ?_
              refine lv_iconst (v := (1 : Int32)) hx hb dX0_writeBlock_368 (by decide) ?_
              refine lv_iload hx hb dX0_writeBlock_369 (lv_at hl 0 rfl) ?_
              obtain ⟨b34, ho34, hc34, hk34, hF⟩ := dr_some hF
              refine W_st (st' := [.int y15, .int (1 : Int32), .ref (ad12 b34)]) (by rw [va_some ho34]) ?_
              obtain ⟨y35, hy35, hF⟩ := bnd_some hF
              obtain ⟨w36, hF, ew36⟩ := app_some hF
              obtain ⟨L37, eL37, hF⟩ := ltt_some hF
              have hT37 : L30 = (L11 ++ y35.1) ++ w36.1 := by rw [hT, ew36]; simp only [List.append_assoc]
              have hf9 := wA_in hD hA9 hS
              refine va_callv (va_runV (As := [.int (1 : Int32), .int y15]) (rest := []) ⟨hx, hb, hml, hown, hts⟩ (kX10_ue l D ct ad12 Z (xt G L11) y13.1 _ b34 ((1 : Int32)) y15 y35 hc34 hk34 hy35) (cwV 2 hts gX0_writeBlock_X10_ue rfl rfl rfl (by decide +kernel) ⟨Nat.le_of_ble_eq_true rfl, Nat.le_of_ble_eq_true rfl⟩) ⟨fun a U g mk q => by obtain ⟨q0, q1, qP, qK, qD, qZ, qN⟩ := q; exact ⟨q0, q1, qP, va_K.moved (u := U) (U := U.calling g mk a) (Vm.Alike.refl U.vm) qK, qD, sF.moved (u := U) (U := U.calling g mk a) (Vm.Alike.refl U.vm) qZ, nF.same rfl qN⟩, va_recv hK hP (ci := 10) (q0 := b34) rfl (wld_o ct ad12 (xt G L11) y13.1 hc34 hk34 (by decide)), fun U hU hW => ⟨rfl, by rw [hU], by rw [hU]; exact hP, va_K.moved hW.alike hK, hD.weaken (fun _ _ _ _ => trivial), by rw [hU]; exact ((hZ.kept hS.2.1).narrow hf9).moved hW.alike, hN.warm hW⟩⟩ rfl rfl hl.1 rfl (lv_room (Nat.le_of_ble_eq_true rfl)) dX0_writeBlock_371 (room_s hT37 hbl)) hS (fun q _ h => hf9 q h) hf9 (fun ad38 t H locs ht hvm hw hB hz1 hk1 hS => ?_)
              have hn39 := hw
              obtain ⟨hP, hK9, hD9⟩ := hB
              rw [ht] at hP
              have hD := hD9.weaken (fun _ q _ h => hf9 q.1 h)
              rw [xt_xt, ← eL37] at hP hD
              refine W_cs (k := L37.length) (n := wt L37) (by rw [eL37]; exact (len_s L11 y35.1).symm) (by rw [eL37]; exact (wt_app L11 y35.1).symm) ?_
              have hT : L30 = L37 ++ w36.1 := by rw [hT37, eL37]
              have h2 : y28.2 = w36.2 := by rw [h2, ew36]
              have hl := lv_sub (l' := [(2, .int x1), (0, .ref (ad12 a)), (1, .int p0)]) hl [3, 4, 5] rfl
              have e9 : ([(2, .int x1), (0, .ref (ad12 a)), (1, .int p0)] : List (Nat × Value)) = [(2, .int x1), (0, .ref (ad38 a)), (1, .int p0)] := (by first | rfl | simp only [hn39 a hc])
              rw [e9] at hl
              clear e9
              have hk : (xt G L37).2.1 a = 0 := by rw [eL37]; exact xt_k _ hc hk
              have hc : a < (xt G L37).1 := by rw [eL37]; exact xt_l _ hc
              have hk2 : (xt G L37).2.1 b2 = 9 := by rw [eL37]; exact xt_k _ hc2 hk2
              have hc2 : b2 < (xt G L37).1 := by rw [eL37]; exact xt_l _ hc2
              have hk3 : (xt G L37).2.1 b3 = 3 := by rw [eL37]; exact xt_k _ hc3 hk3
              have hc3 : b3 < (xt G L37).1 := by rw [eL37]; exact xt_l _ hc3
              have hk4 : (xt G L37).2.1 b4 = 13 := by rw [eL37]; exact xt_k _ hc4 hk4
              have hc4 : b4 < (xt G L37).1 := by rw [eL37]; exact xt_l _ hc4
              have hk7 : (xt G L37).2.1 b7 = 13 := by rw [eL37]; exact xt_k _ hc7 hk7
              have hc7 : b7 < (xt G L37).1 := by rw [eL37]; exact xt_l _ hc7
              have hk34 : (xt G L37).2.1 b34 = 10 := by rw [eL37]; exact xt_k _ hc34 hk34
              have hc34 : b34 < (xt G L37).1 := by rw [eL37]; exact xt_l _ hc34
              have hag := agr_t (xt_ge _ _) hag hn39
              refine lv_aload_n hx hb dX0_writeBlock_374 rfl (lv_at hl 1 rfl) ?_
              refine lv_iload_n hx hb dX0_writeBlock_375 rfl (lv_at hl 2 rfl) ?_
              obtain ⟨y40, hy40, hF⟩ := bnd_some hF
              obtain ⟨w41, hF, ew41⟩ := app_some hF
              obtain ⟨L42, eL42, hF⟩ := ltt_some hF
              have hT42 : L30 = (L37 ++ y40.1) ++ w41.1 := by rw [hT, ew41]; simp only [List.append_assoc]
              have hf9 := wA_in hD hA9 hS
              refine va_callv (va_runV (As := [.int p0]) (rest := []) ⟨hx, hb, hml, hown, hts⟩ (kX0_writeModes l D ct ad38 Z (xt G L37) y35.2 _ a p0 y40 hc hk hy40) (cwV 1 hts gX0_writeBlock_X0_writeModes rfl rfl rfl (by decide +kernel) ⟨Nat.le_of_ble_eq_true rfl, Nat.le_of_ble_eq_true rfl⟩) ⟨fun a U g mk q => by obtain ⟨q0, q1, qP, qK, qD, qZ, qN⟩ := q; exact ⟨q0, q1, qP, va_K.moved (u := U) (U := U.calling g mk a) (Vm.Alike.refl U.vm) qK, qD, sF.moved (u := U) (U := U.calling g mk a) (Vm.Alike.refl U.vm) qZ, nF.same rfl qN⟩, va_recv hK hP (ci := 0) (q0 := a) rfl (wld_o ct ad38 (xt G L37) y35.2 hc hk (by decide)), fun U hU hW => ⟨rfl, by rw [hU], by rw [hU]; exact hP, va_K.moved hW.alike hK, hD.weaken (fun _ _ _ _ => trivial), by rw [hU]; exact ((hZ.kept hS.2.1).narrow hf9).moved hW.alike, hN.warm hW⟩⟩ rfl rfl hl.1 rfl (lv_room (Nat.le_of_ble_eq_true rfl)) dX0_writeBlock_376 (room_s hT42 hbl)) hS (fun q _ h => hf9 q h) hf9 (fun ad43 t H locs ht hvm hw hB hz1 hk1 hS => ?_)
              have hn44 := hw
              obtain ⟨hP, hK9, hD9⟩ := hB
              rw [ht] at hP
              have hD := hD9.weaken (fun _ q _ h => hf9 q.1 h)
              rw [xt_xt, ← eL42] at hP hD
              refine W_cs (k := L42.length) (n := wt L42) (by rw [eL42]; exact (len_s L37 y40.1).symm) (by rw [eL42]; exact (wt_app L37 y40.1).symm) ?_
              have hT : L30 = L42 ++ w41.1 := by rw [hT42, eL42]
              have h2 : y28.2 = w41.2 := by rw [h2, ew41]
              have hl := lv_sub (l' := [(2, .int x1), (0, .ref (ad38 a))]) hl [0, 1] rfl
              have e9 : ([(2, .int x1), (0, .ref (ad38 a))] : List (Nat × Value)) = [(2, .int x1), (0, .ref (ad43 a))] := (by first | rfl | simp only [hn44 a hc])
              rw [e9] at hl
              clear e9
              have hk : (xt G L42).2.1 a = 0 := by rw [eL42]; exact xt_k _ hc hk
              have hc : a < (xt G L42).1 := by rw [eL42]; exact xt_l _ hc
              have hk2 : (xt G L42).2.1 b2 = 9 := by rw [eL42]; exact xt_k _ hc2 hk2
              have hc2 : b2 < (xt G L42).1 := by rw [eL42]; exact xt_l _ hc2
              have hk3 : (xt G L42).2.1 b3 = 3 := by rw [eL42]; exact xt_k _ hc3 hk3
              have hc3 : b3 < (xt G L42).1 := by rw [eL42]; exact xt_l _ hc3
              have hk4 : (xt G L42).2.1 b4 = 13 := by rw [eL42]; exact xt_k _ hc4 hk4
              have hc4 : b4 < (xt G L42).1 := by rw [eL42]; exact xt_l _ hc4
              have hk7 : (xt G L42).2.1 b7 = 13 := by rw [eL42]; exact xt_k _ hc7 hk7
              have hc7 : b7 < (xt G L42).1 := by rw [eL42]; exact xt_l _ hc7
              have hk34 : (xt G L42).2.1 b34 = 10 := by rw [eL42]; exact xt_k _ hc34 hk34
              have hc34 : b34 < (xt G L42).1 := by rw [eL42]; exact xt_l _ hc34
              have hag := agr_t (xt_ge _ _) hag hn44
              refine lv_aload_n hx hb dX0_writeBlock_379 rfl (lv_at hl 1 rfl) ?_
              refine va_get (D := D) (ci := 0) (v := va_re ad43 (y40.2.2 a 2)) (C := RX0) (T := TX0) (N := 21) hx hb hts (by decide +kernel) hown hK hP a (wld_o ct ad43 (xt G L42) y40.2 hc hk (by decide)) rfl 2 (by decide) (hts (.fieldLink RX0 29 "VideoSuite$Coder" "writer" "LVideoSuite$Writer;") (by decide +kernel)) (fun _ h9 => h9) rfl dX0_writeBlock_380 ?_
              refine lv_iconst (v := (4 : Int32)) hx hb dX0_writeBlock_383 (by decide) ?_
              refine lv_aload_n hx hb dX0_writeBlock_384 rfl (lv_at hl 1 rfl) ?_
              refine va_get (D := D) (ci := 0) (v := va_re ad43 (y40.2.2 a 3)) (C := RX0) (T := TX0) (N := 21) hx hb hts (by decide +kernel) hown hK hP a (wld_o ct ad43 (xt G L42) y40.2 hc hk (by decide)) rfl 3 (by decide) (hts (.fieldLink RX0 36 "VideoSuite$Coder" "work" "LVideoSuite$Work;") (by decide +kernel)) (fun _ h9 => h9) rfl dX0_writeBlock_385 ?_
              obtain ⟨b45, ho45, hc45, hk45, hF⟩ := dr_some hF
              refine W_st (st' := [.ref (ad43 b45), .int (4 : Int32), va_re ad43 (y40.2.2 a 2)]) (by rw [va_some ho45]) ?_
              refine va_get (D := D) (ci := 9) (v := va_re ad43 (y40.2.2 b45 6)) (C := RX9) (T := TX9) (N := 20) hx hb hts (by decide +kernel) hown hK hP b45 (wld_o ct ad43 (xt G L42) y40.2 hc45 hk45 (by decide)) rfl 6 (by decide) (hts (.fieldLink RX0 216 "VideoSuite$Work" "info" "[I") (by decide +kernel)) (fun _ h9 => h9) rfl dX0_writeBlock_388 ?_
              refine lv_iload_n hx hb dX0_writeBlock_391 rfl (lv_at hl 0 rfl) ?_
              refine lv_iconst (v := (5 : Int32)) hx hb dX0_writeBlock_392 (by decide) ?_
              refine lv_iadd hx hb dX0_writeBlock_393 ?_
              obtain ⟨x46, ex46, hF⟩ := ltt_some hF
              refine lv_topi (fun zx46 ezx46 => ?_)
              obtain rfl : x46 = zx46 := ex46.trans ezx46.symm
              obtain ⟨b47, ho47, hc47, hk47, hF⟩ := dr_some hF
              refine W_st (st' := [.int x46, .ref (ad43 b47), .int (4 : Int32), va_re ad43 (y40.2.2 a 2)]) (by rw [va_some ho47]) ?_
              obtain ⟨hvc, hF⟩ := chk_some hF
              refine va_iald hx hb hK hP b47 1 (wld_i ct ad43 (xt G L42) y40.2 hc47 hk47) rfl hvc dX0_writeBlock_394 ?_
              obtain ⟨x48, ex48, hF⟩ := ltt_some hF
              refine lv_topi (fun zx48 ezx48 => ?_)
              obtain rfl : x48 = zx48 := ex48.trans ezx48.symm
              obtain ⟨b49, ho49, hc49, hk49, hF⟩ := dr_some hF
              refine W_st (st' := [.int x48, .int (4 : Int32), .ref (ad43 b49)]) (by rw [va_some ho49]) ?_
              obtain ⟨y50, hy50, hF⟩ := bnd_some hF
              obtain ⟨w51, hF, ew51⟩ := app_some hF
              obtain ⟨L52, eL52, hF⟩ := ltt_some hF
              have hT52 : L30 = (L42 ++ y50.1) ++ w51.1 := by rw [hT, ew51]; simp only [List.append_assoc]
              have hf9 := wA_in hD hA9 hS
              refine va_callv (va_runV (As := [.int (4 : Int32), .int x48]) (rest := []) ⟨hx, hb, hml, hown, hts⟩ (kX10_ue l D ct ad43 Z (xt G L42) y40.2 _ b49 ((4 : Int32)) x48 y50 hc49 hk49 hy50) (cwV 2 hts gX0_writeBlock_X10_ue rfl rfl rfl (by decide +kernel) ⟨Nat.le_of_ble_eq_true rfl, Nat.le_of_ble_eq_true rfl⟩) ⟨fun a U g mk q => by obtain ⟨q0, q1, qP, qK, qD, qZ, qN⟩ := q; exact ⟨q0, q1, qP, va_K.moved (u := U) (U := U.calling g mk a) (Vm.Alike.refl U.vm) qK, qD, sF.moved (u := U) (U := U.calling g mk a) (Vm.Alike.refl U.vm) qZ, nF.same rfl qN⟩, va_recv hK hP (ci := 10) (q0 := b49) rfl (wld_o ct ad43 (xt G L42) y40.2 hc49 hk49 (by decide)), fun U hU hW => ⟨rfl, by rw [hU], by rw [hU]; exact hP, va_K.moved hW.alike hK, hD.weaken (fun _ _ _ _ => trivial), by rw [hU]; exact ((hZ.kept hS.2.1).narrow hf9).moved hW.alike, hN.warm hW⟩⟩ rfl rfl hl.1 rfl (lv_room (Nat.le_of_ble_eq_true rfl)) dX0_writeBlock_395 (room_s hT52 hbl)) hS (fun q _ h => hf9 q h) hf9 (fun ad53 t H locs ht hvm hw hB hz1 hk1 hS => ?_)
              have hn54 := hw
              obtain ⟨hP, hK9, hD9⟩ := hB
              rw [ht] at hP
              have hD := hD9.weaken (fun _ q _ h => hf9 q.1 h)
              rw [xt_xt, ← eL52] at hP hD
              refine W_cs (k := L52.length) (n := wt L52) (by rw [eL52]; exact (len_s L42 y50.1).symm) (by rw [eL52]; exact (wt_app L42 y50.1).symm) ?_
              have hT : L30 = L52 ++ w51.1 := by rw [hT52, eL52]
              have h2 : y28.2 = w51.2 := by rw [h2, ew51]
              have hl := lv_sub (l' := []) hl [] rfl
              have hk : (xt G L52).2.1 a = 0 := by rw [eL52]; exact xt_k _ hc hk
              have hc : a < (xt G L52).1 := by rw [eL52]; exact xt_l _ hc
              have hk2 : (xt G L52).2.1 b2 = 9 := by rw [eL52]; exact xt_k _ hc2 hk2
              have hc2 : b2 < (xt G L52).1 := by rw [eL52]; exact xt_l _ hc2
              have hk3 : (xt G L52).2.1 b3 = 3 := by rw [eL52]; exact xt_k _ hc3 hk3
              have hc3 : b3 < (xt G L52).1 := by rw [eL52]; exact xt_l _ hc3
              have hk4 : (xt G L52).2.1 b4 = 13 := by rw [eL52]; exact xt_k _ hc4 hk4
              have hc4 : b4 < (xt G L52).1 := by rw [eL52]; exact xt_l _ hc4
              have hk7 : (xt G L52).2.1 b7 = 13 := by rw [eL52]; exact xt_k _ hc7 hk7
              have hc7 : b7 < (xt G L52).1 := by rw [eL52]; exact xt_l _ hc7
              have hk34 : (xt G L52).2.1 b34 = 10 := by rw [eL52]; exact xt_k _ hc34 hk34
              have hc34 : b34 < (xt G L52).1 := by rw [eL52]; exact xt_l _ hc34
              have hk45 : (xt G L52).2.1 b45 = 9 := by rw [eL52]; exact xt_k _ hc45 hk45
              have hc45 : b45 < (xt G L52).1 := by rw [eL52]; exact xt_l _ hc45
              have hk47 : (xt G L52).2.1 b47 = 13 := by rw [eL52]; exact xt_k _ hc47 hk47
              have hc47 : b47 < (xt G L52).1 := by rw [eL52]; exact xt_l _ hc47
              have hk49 : (xt G L52).2.1 b49 = 10 := by rw [eL52]; exact xt_k _ hc49 hk49
              have hc49 : b49 < (xt G L52).1 := by rw [eL52]; exact xt_l _ hc49
              have hag := agr_t (xt_ge _ _) hag hn54
              obtain rfl := Option.some.inj hF
              have e1 : L30 = L52 := by rw [hT]; exact List.append_nil _
              have e2 : y28.2 = y50.2 := h2
              rw [e1] at J28
              try rw [e2] at J28
              exact J28 _ hag _ _ _ hP hD hS (lv_sub hl [] rfl)
            · rw [if_pos c33] at hF
              refine lv_aload_n hx hb dX0_writeBlock_278 rfl (lv_at hl 4 rfl) ?_
              refine va_get (D := D) (ci := 0) (v := va_re ad12 (y13.1.2 a 3)) (C := RX0) (T := TX0) (N := 21) hx hb hts (by decide +kernel) hown hK hP a (wld_o ct ad12 (xt G L11) y13.1 hc hk (by decide)) rfl 3 (by decide) (hts (.fieldLink RX0 36 "VideoSuite$Coder" "work" "LVideoSuite$Work;") (by decide +kernel)) (fun _ h9 => h9) rfl dX0_writeBlock_279 ?_
              obtain ⟨b55, ho55, hc55, hk55, hF⟩ := dr_some hF
              refine W_st (st' := [.ref (ad12 b55)]) (by rw [va_some ho55]) ?_
              refine va_get (D := D) (ci := 9) (v := va_re ad12 (y13.1.2 b55 7)) (C := RX9) (T := TX9) (N := 20) hx hb hts (by decide +kernel) hown hK hP b55 (wld_o ct ad12 (xt G L11) y13.1 hc55 hk55 (by decide)) rfl 7 (by decide) (hts (.fieldLink RX0 356 "VideoSuite$Work" "mode" "[I") (by decide +kernel)) (fun _ h9 => h9) rfl dX0_writeBlock_282 ?_
              refine lv_bipush (v := (16 : Int32)) hx hb dX0_writeBlock_285 (by decide) ?_
              refine lv_iload_n hx hb dX0_writeBlock_287 rfl (lv_at hl 5 rfl) ?_
              refine lv_imul hx hb dX0_writeBlock_288 ?_
              obtain ⟨x56, ex56, hF⟩ := ltt_some hF
              refine lv_topi (fun zx56 ezx56 => ?_)
              obtain rfl : x56 = zx56 := ex56.trans ezx56.symm
              obtain ⟨b57, ho57, hc57, hk57, hF⟩ := dr_some hF
              refine W_st (st' := [.int x56, .ref (ad12 b57)]) (by rw [va_some ho57]) ?_
              obtain ⟨hvc, hF⟩ := chk_some hF
              refine va_iald hx hb hK hP b57 1 (wld_i ct ad12 (xt G L11) y13.1 hc57 hk57) rfl hvc dX0_writeBlock_289 ?_
              obtain ⟨x58, ex58, hF⟩ := ltt_some hF
              refine lv_topi (fun zx58 ezx58 => ?_)
              obtain rfl : x58 = zx58 := ex58.trans ezx58.symm
              refine lv_iconst (v := (4 : Int32)) hx hb dX0_writeBlock_290 (by decide) ?_
              refine lv_aload_n hx hb dX0_writeBlock_291 rfl (lv_at hl 4 rfl) ?_
              refine va_get (D := D) (ci := 0) (v := va_re ad12 (y13.1.2 a 3)) (C := RX0) (T := TX0) (N := 21) hx hb hts (by decide +kernel) hown hK hP a (wld_o ct ad12 (xt G L11) y13.1 hc hk (by decide)) rfl 3 (by decide) (hts (.fieldLink RX0 36 "VideoSuite$Coder" "work" "LVideoSuite$Work;") (by decide +kernel)) (fun _ h9 => h9) rfl dX0_writeBlock_292 ?_
              refine W_st (st' := [.ref (ad12 b55), .int (4 : Int32), .int x58]) (by rw [va_some ho55]) ?_
              refine va_get (D := D) (ci := 9) (v := va_re ad12 (y13.1.2 b55 6)) (C := RX9) (T := TX9) (N := 20) hx hb hts (by decide +kernel) hown hK hP b55 (wld_o ct ad12 (xt G L11) y13.1 hc55 hk55 (by decide)) rfl 6 (by decide) (hts (.fieldLink RX0 216 "VideoSuite$Work" "info" "[I") (by decide +kernel)) (fun _ h9 => h9) rfl dX0_writeBlock_295 ?_
              refine lv_iload_n hx hb dX0_writeBlock_298 rfl (lv_at hl 3 rfl) ?_
              refine lv_iconst (v := (4 : Int32)) hx hb dX0_writeBlock_299 (by decide) ?_
              refine lv_iadd hx hb dX0_writeBlock_300 ?_
              obtain ⟨x59, ex59, hF⟩ := ltt_some hF
              refine lv_topi (fun zx59 ezx59 => ?_)
              obtain rfl : x59 = zx59 := ex59.trans ezx59.symm
              obtain ⟨b60, ho60, hc60, hk60, hF⟩ := dr_some hF
              refine W_st (st' := [.int x59, .ref (ad12 b60), .int (4 : Int32), .int x58]) (by rw [va_some ho60]) ?_
              obtain ⟨hvc, hF⟩ := chk_some hF
              refine va_iald hx hb hK hP b60 1 (wld_i ct ad12 (xt G L11) y13.1 hc60 hk60) rfl hvc dX0_writeBlock_301 ?_
              obtain ⟨x61, ex61, hF⟩ := ltt_some hF
              refine lv_topi (fun zx61 ezx61 => ?_)
              obtain rfl : x61 = zx61 := ex61.trans ezx61.symm
              refine lv_imul hx hb dX0_writeBlock_302 ?_
              obtain ⟨x62, ex62, hF⟩ := ltt_some hF
              refine lv_topi (fun zx62 ezx62 => ?_)
              obtain rfl : x62 = zx62 := ex62.trans ezx62.symm
              refine lv_iadd hx hb dX0_writeBlock_303 ?_
              obtain ⟨x63, ex63, hF⟩ := ltt_some hF
              refine lv_topi (fun zx63 ezx63 => ?_)
              obtain rfl : x63 = zx63 := ex63.trans ezx63.symm
              refine lv_aload_n hx hb dX0_writeBlock_304 rfl (lv_at hl 4 rfl) ?_
              refine va_get (D := D) (ci := 0) (v := va_re ad12 (y13.1.2 a 3)) (C := RX0) (T := TX0) (N := 21) hx hb hts (by decide +kernel) hown hK hP a (wld_o ct ad12 (xt G L11) y13.1 hc hk (by decide)) rfl 3 (by decide) (hts (.fieldLink RX0 36 "VideoSuite$Coder" "work" "LVideoSuite$Work;") (by decide +kernel)) (fun _ h9 => h9) rfl dX0_writeBlock_305 ?_
              refine W_st (st' := [.ref (ad12 b55), .int x63]) (by rw [va_some ho55]) ?_
              refine va_get (D := D) (ci := 9) (v := va_re ad12 (y13.1.2 b55 6)) (C := RX9) (T := TX9) (N := 20) hx hb hts (by decide +kernel) hown hK hP b55 (wld_o ct ad12 (xt G L11) y13.1 hc55 hk55 (by decide)) rfl 6 (by decide) (hts (.fieldLink RX0 216 "VideoSuite$Work" "info" "[I") (by decide +kernel)) (fun _ h9 => h9) rfl dX0_writeBlock_308 ?_
              refine lv_iload_n hx hb dX0_writeBlock_311 rfl (lv_at hl 3 rfl) ?_
              refine lv_iconst (v := (3 : Int32)) hx hb dX0_writeBlock_312 (by decide) ?_
              refine lv_iadd hx hb dX0_writeBlock_313 ?_
              obtain ⟨x64, ex64, hF⟩ := ltt_some hF
              refine lv_topi (fun zx64 ezx64 => ?_)
              obtain rfl : x64 = zx64 := ex64.trans ezx64.symm
              refine W_st (st' := [.int x64, .ref (ad12 b60), .int x63]) (by rw [va_some ho60]) ?_
              obtain ⟨hvc, hF⟩ := chk_some hF
              refine va_iald hx hb hK hP b60 1 (wld_i ct ad12 (xt G L11) y13.1 hc60 hk60) rfl hvc dX0_writeBlock_314 ?_
              obtain ⟨x65, ex65, hF⟩ := ltt_some hF
              refine lv_topi (fun zx65 ezx65 => ?_)
              obtain rfl : x65 = zx65 := ex65.trans ezx65.symm
              obtain ⟨y66, hy66, hF⟩ := bnd_some hF
              have J66 : ∀ (H : Heap) (locs : List Loc) (ls : Array Slot), va_P D classes (wld ct ad12 (xt G L11) y13.1) H → va_D A (wld ct ad12 (xt G L11) y13.1) → va_S A s.heap H locs → lv_has ls 8 [(5, .int y15), (4, .int x8), (3, .int x5), (2, .int x1), (0, .ref (ad12 a)), (1, .int p0)] → W p l e (headSpec wsX0_writeBlock ({ frames := 6, cells := y.1.length, slots := wt y.1, locals := 199 })).room s m ([.ref (ad a), .int p0] : List Value).toArray below meth c H locs (L11 : NN).length (wt L11) (MQ below (va_Qv (fun (u : Nat → Nat) => agr G.1 ad u) (fun u t => kE D ct u (xt G y.1) A y.2 t) A) ([.ref (ad a), .int p0] : List Value).toArray s y.1.length (wt y.1) A) (F0 m 324 ls [.int y66, .int x63]) := by
                intro H locs ls hP hD hS hl
                refine lv_iadd hx hb dX0_writeBlock_324 ?_
                obtain ⟨x67, ex67, hF⟩ := ltt_some hF
                refine lv_topi (fun zx67 ezx67 => ?_)
                obtain rfl : x67 = zx67 := ex67.trans ezx67.symm
                refine lv_istore (lv' := [(6, .int x67), (5, .int y15), (4, .int x8), (3, .int x5), (2, .int x1), (0, .ref (ad12 a)), (1, .int p0)]) hx hb dX0_writeBlock_325 hl (by decide) rfl (fun ls hl => ?_)
                refine lv_aload_n hx hb dX0_writeBlock_327 rfl (lv_at hl 5 rfl) ?_
                refine va_get (D := D) (ci := 0) (v := va_re ad12 (y13.1.2 a 2)) (C := RX0) (T := TX0) (N := 21) hx hb hts (by decide +kernel) hown hK hP a (wld_o ct ad12 (xt G L11) y13.1 hc hk (by decide)) rfl 2 (by decide) (hts (.fieldLink RX0 29 "VideoSuite$Coder" "writer" "LVideoSuite$Writer;") (by decide +kernel)) (fun _ h9 => h9) rfl dX0_writeBlock_328 ?_
                refine lv_iconst (v := (1 : Int32)) hx hb dX0_writeBlock_331 (by decide) ?_
                refine lv_iload hx hb dX0_writeBlock_332 (lv_at hl 1 rfl) ?_
                refine lv_iconst (v := (1 : Int32)) hx hb dX0_writeBlock_334 (by decide) ?_
                refine lv_iadd hx hb dX0_writeBlock_335 ?_
                obtain ⟨x68, ex68, hF⟩ := ltt_some hF
                refine lv_topi (fun zx68 ezx68 => ?_)
                obtain rfl : x68 = zx68 := ex68.trans ezx68.symm
                refine lv_iload hx hb dX0_writeBlock_336 (lv_at hl 0 rfl) ?_
                refine lv_iadd hx hb dX0_writeBlock_338 ?_
                obtain ⟨x69, ex69, hF⟩ := ltt_some hF
                refine lv_topi (fun zx69 ezx69 => ?_)
                obtain rfl : x69 = zx69 := ex69.trans ezx69.symm
                obtain ⟨b70, ho70, hc70, hk70, hF⟩ := dr_some hF
                refine W_st (st' := [.int x69, .int (1 : Int32), .ref (ad12 b70)]) (by rw [va_some ho70]) ?_
                obtain ⟨y71, hy71, hF⟩ := bnd_some hF
                obtain ⟨w72, hF, ew72⟩ := app_some hF
                obtain ⟨L73, eL73, hF⟩ := ltt_some hF
                have hT73 : L30 = (L11 ++ y71.1) ++ w72.1 := by rw [hT, ew72]; simp only [List.append_assoc]
                have hf9 := wA_in hD hA9 hS
                refine va_callv (va_runV (As := [.int (1 : Int32), .int x69]) (rest := []) ⟨hx, hb, hml, hown, hts⟩ (kX10_ue l D ct ad12 Z (xt G L11) y13.1 _ b70 ((1 : Int32)) x69 y71 hc70 hk70 hy71) (cwV 2 hts gX0_writeBlock_X10_ue rfl rfl rfl (by decide +kernel) ⟨Nat.le_of_ble_eq_true rfl, Nat.le_of_ble_eq_true rfl⟩) ⟨fun a U g mk q => by obtain ⟨q0, q1, qP, qK, qD, qZ, qN⟩ := q; exact ⟨q0, q1, qP, va_K.moved (u := U) (U := U.calling g mk a) (Vm.Alike.refl U.vm) qK, qD, sF.moved (u := U) (U := U.calling g mk a) (Vm.Alike.refl U.vm) qZ, nF.same rfl qN⟩, va_recv hK hP (ci := 10) (q0 := b70) rfl (wld_o ct ad12 (xt G L11) y13.1 hc70 hk70 (by decide)), fun U hU hW => ⟨rfl, by rw [hU], by rw [hU]; exact hP, va_K.moved hW.alike hK, hD.weaken (fun _ _ _ _ => trivial), by rw [hU]; exact ((hZ.kept hS.2.1).narrow hf9).moved hW.alike, hN.warm hW⟩⟩ rfl rfl hl.1 rfl (lv_room (Nat.le_of_ble_eq_true rfl)) dX0_writeBlock_339 (room_s hT73 hbl)) hS (fun q _ h => hf9 q h) hf9 (fun ad74 t H locs ht hvm hw hB hz1 hk1 hS => ?_)
                have hn75 := hw
                obtain ⟨hP, hK9, hD9⟩ := hB
                rw [ht] at hP
                have hD := hD9.weaken (fun _ q _ h => hf9 q.1 h)
                rw [xt_xt, ← eL73] at hP hD
                refine W_cs (k := L73.length) (n := wt L73) (by rw [eL73]; exact (len_s L11 y71.1).symm) (by rw [eL73]; exact (wt_app L11 y71.1).symm) ?_
                have hT : L30 = L73 ++ w72.1 := by rw [hT73, eL73]
                have h2 : y28.2 = w72.2 := by rw [h2, ew72]
                have hl := lv_sub (l' := [(2, .int x1), (0, .ref (ad12 a))]) hl [4, 5] rfl
                have e9 : ([(2, .int x1), (0, .ref (ad12 a))] : List (Nat × Value)) = [(2, .int x1), (0, .ref (ad74 a))] := (by first | rfl | simp only [hn75 a hc])
                rw [e9] at hl
                clear e9
                have hk : (xt G L73).2.1 a = 0 := by rw [eL73]; exact xt_k _ hc hk
                have hc : a < (xt G L73).1 := by rw [eL73]; exact xt_l _ hc
                have hk2 : (xt G L73).2.1 b2 = 9 := by rw [eL73]; exact xt_k _ hc2 hk2
                have hc2 : b2 < (xt G L73).1 := by rw [eL73]; exact xt_l _ hc2
                have hk3 : (xt G L73).2.1 b3 = 3 := by rw [eL73]; exact xt_k _ hc3 hk3
                have hc3 : b3 < (xt G L73).1 := by rw [eL73]; exact xt_l _ hc3
                have hk4 : (xt G L73).2.1 b4 = 13 := by rw [eL73]; exact xt_k _ hc4 hk4
                have hc4 : b4 < (xt G L73).1 := by rw [eL73]; exact xt_l _ hc4
                have hk7 : (xt G L73).2.1 b7 = 13 := by rw [eL73]; exact xt_k _ hc7 hk7
                have hc7 : b7 < (xt G L73).1 := by rw [eL73]; exact xt_l _ hc7
                have hk55 : (xt G L73).2.1 b55 = 9 := by rw [eL73]; exact xt_k _ hc55 hk55
                have hc55 : b55 < (xt G L73).1 := by rw [eL73]; exact xt_l _ hc55
                have hk57 : (xt G L73).2.1 b57 = 13 := by rw [eL73]; exact xt_k _ hc57 hk57
                have hc57 : b57 < (xt G L73).1 := by rw [eL73]; exact xt_l _ hc57
                have hk60 : (xt G L73).2.1 b60 = 13 := by rw [eL73]; exact xt_k _ hc60 hk60
                have hc60 : b60 < (xt G L73).1 := by rw [eL73]; exact xt_l _ hc60
                have hk70 : (xt G L73).2.1 b70 = 10 := by rw [eL73]; exact xt_k _ hc70 hk70
                have hc70 : b70 < (xt G L73).1 := by rw [eL73]; exact xt_l _ hc70
                have hag := agr_t (xt_ge _ _) hag hn75
                refine lv_aload_n hx hb dX0_writeBlock_342 rfl (lv_at hl 1 rfl) ?_
                refine va_get (D := D) (ci := 0) (v := va_re ad74 (y71.2.2 a 2)) (C := RX0) (T := TX0) (N := 21) hx hb hts (by decide +kernel) hown hK hP a (wld_o ct ad74 (xt G L73) y71.2 hc hk (by decide)) rfl 2 (by decide) (hts (.fieldLink RX0 29 "VideoSuite$Coder" "writer" "LVideoSuite$Writer;") (by decide +kernel)) (fun _ h9 => h9) rfl dX0_writeBlock_343 ?_
                refine lv_iconst (v := (4 : Int32)) hx hb dX0_writeBlock_346 (by decide) ?_
                refine lv_aload_n hx hb dX0_writeBlock_347 rfl (lv_at hl 1 rfl) ?_
                refine va_get (D := D) (ci := 0) (v := va_re ad74 (y71.2.2 a 3)) (C := RX0) (T := TX0) (N := 21) hx hb hts (by decide +kernel) hown hK hP a (wld_o ct ad74 (xt G L73) y71.2 hc hk (by decide)) rfl 3 (by decide) (hts (.fieldLink RX0 36 "VideoSuite$Coder" "work" "LVideoSuite$Work;") (by decide +kernel)) (fun _ h9 => h9) rfl dX0_writeBlock_348 ?_
                obtain ⟨b76, ho76, hc76, hk76, hF⟩ := dr_some hF
                refine W_st (st' := [.ref (ad74 b76), .int (4 : Int32), va_re ad74 (y71.2.2 a 2)]) (by rw [va_some ho76]) ?_
                refine va_get (D := D) (ci := 9) (v := va_re ad74 (y71.2.2 b76 6)) (C := RX9) (T := TX9) (N := 20) hx hb hts (by decide +kernel) hown hK hP b76 (wld_o ct ad74 (xt G L73) y71.2 hc76 hk76 (by decide)) rfl 6 (by decide) (hts (.fieldLink RX0 216 "VideoSuite$Work" "info" "[I") (by decide +kernel)) (fun _ h9 => h9) rfl dX0_writeBlock_351 ?_
                refine lv_iload_n hx hb dX0_writeBlock_354 rfl (lv_at hl 0 rfl) ?_
                refine lv_iconst (v := (5 : Int32)) hx hb dX0_writeBlock_355 (by decide) ?_
                refine lv_iadd hx hb dX0_writeBlock_356 ?_
                obtain ⟨x77, ex77, hF⟩ := ltt_some hF
                refine lv_topi (fun zx77 ezx77 => ?_)
                obtain rfl : x77 = zx77 := ex77.trans ezx77.symm
                obtain ⟨b78, ho78, hc78, hk78, hF⟩ := dr_some hF
                refine W_st (st' := [.int x77, .ref (ad74 b78), .int (4 : Int32), va_re ad74 (y71.2.2 a 2)]) (by rw [va_some ho78]) ?_
                obtain ⟨hvc, hF⟩ := chk_some hF
                refine va_iald hx hb hK hP b78 1 (wld_i ct ad74 (xt G L73) y71.2 hc78 hk78) rfl hvc dX0_writeBlock_357 ?_
                obtain ⟨x79, ex79, hF⟩ := ltt_some hF
                refine lv_topi (fun zx79 ezx79 => ?_)
                obtain rfl : x79 = zx79 := ex79.trans ezx79.symm
                obtain ⟨b80, ho80, hc80, hk80, hF⟩ := dr_some hF
                refine W_st (st' := [.int x79, .int (4 : Int32), .ref (ad74 b80)]) (by rw [va_some ho80]) ?_
                obtain ⟨y81, hy81, hF⟩ := bnd_some hF
                obtain ⟨w82, hF, ew82⟩ := app_some hF
                obtain ⟨L83, eL83, hF⟩ := ltt_some hF
                have hT83 : L30 = (L73 ++ y81.1) ++ w82.1 := by rw [hT, ew82]; simp only [List.append_assoc]
                have hf9 := wA_in hD hA9 hS
                refine va_callv (va_runV (As := [.int (4 : Int32), .int x79]) (rest := []) ⟨hx, hb, hml, hown, hts⟩ (kX10_ue l D ct ad74 Z (xt G L73) y71.2 _ b80 ((4 : Int32)) x79 y81 hc80 hk80 hy81) (cwV 2 hts gX0_writeBlock_X10_ue rfl rfl rfl (by decide +kernel) ⟨Nat.le_of_ble_eq_true rfl, Nat.le_of_ble_eq_true rfl⟩) ⟨fun a U g mk q => by obtain ⟨q0, q1, qP, qK, qD, qZ, qN⟩ := q; exact ⟨q0, q1, qP, va_K.moved (u := U) (U := U.calling g mk a) (Vm.Alike.refl U.vm) qK, qD, sF.moved (u := U) (U := U.calling g mk a) (Vm.Alike.refl U.vm) qZ, nF.same rfl qN⟩, va_recv hK hP (ci := 10) (q0 := b80) rfl (wld_o ct ad74 (xt G L73) y71.2 hc80 hk80 (by decide)), fun U hU hW => ⟨rfl, by rw [hU], by rw [hU]; exact hP, va_K.moved hW.alike hK, hD.weaken (fun _ _ _ _ => trivial), by rw [hU]; exact ((hZ.kept hS.2.1).narrow hf9).moved hW.alike, hN.warm hW⟩⟩ rfl rfl hl.1 rfl (lv_room (Nat.le_of_ble_eq_true rfl)) dX0_writeBlock_358 (room_s hT83 hbl)) hS (fun q _ h => hf9 q h) hf9 (fun ad84 t H locs ht hvm hw hB hz1 hk1 hS => ?_)
                have hn85 := hw
                obtain ⟨hP, hK9, hD9⟩ := hB
                rw [ht] at hP
                have hD := hD9.weaken (fun _ q _ h => hf9 q.1 h)
                rw [xt_xt, ← eL83] at hP hD
                refine W_cs (k := L83.length) (n := wt L83) (by rw [eL83]; exact (len_s L73 y81.1).symm) (by rw [eL83]; exact (wt_app L73 y81.1).symm) ?_
                have hT : L30 = L83 ++ w82.1 := by rw [hT83, eL83]
                have h2 : y28.2 = w82.2 := by rw [h2, ew82]
                have hl := lv_sub (l' := []) hl [] rfl
                have hk : (xt G L83).2.1 a = 0 := by rw [eL83]; exact xt_k _ hc hk
                have hc : a < (xt G L83).1 := by rw [eL83]; exact xt_l _ hc
                have hk2 : (xt G L83).2.1 b2 = 9 := by rw [eL83]; exact xt_k _ hc2 hk2
                have hc2 : b2 < (xt G L83).1 := by rw [eL83]; exact xt_l _ hc2
                have hk3 : (xt G L83).2.1 b3 = 3 := by rw [eL83]; exact xt_k _ hc3 hk3
                have hc3 : b3 < (xt G L83).1 := by rw [eL83]; exact xt_l _ hc3
                have hk4 : (xt G L83).2.1 b4 = 13 := by rw [eL83]; exact xt_k _ hc4 hk4
                have hc4 : b4 < (xt G L83).1 := by rw [eL83]; exact xt_l _ hc4
                have hk7 : (xt G L83).2.1 b7 = 13 := by rw [eL83]; exact xt_k _ hc7 hk7
                have hc7 : b7 < (xt G L83).1 := by rw [eL83]; exact xt_l _ hc7
                have hk55 : (xt G L83).2.1 b55 = 9 := by rw [eL83]; exact xt_k _ hc55 hk55
                have hc55 : b55 < (xt G L83).1 := by rw [eL83]; exact xt_l _ hc55
                have hk57 : (xt G L83).2.1 b57 = 13 := by rw [eL83]; exact xt_k _ hc57 hk57
                have hc57 : b57 < (xt G L83).1 := by rw [eL83]; exact xt_l _ hc57
                have hk60 : (xt G L83).2.1 b60 = 13 := by rw [eL83]; exact xt_k _ hc60 hk60
                have hc60 : b60 < (xt G L83).1 := by rw [eL83]; exact xt_l _ hc60
                have hk70 : (xt G L83).2.1 b70 = 10 := by rw [eL83]; exact xt_k _ hc70 hk70
                have hc70 : b70 < (xt G L83).1 := by rw [eL83]; exact xt_l _ hc70
                have hk76 : (xt G L83).2.1 b76 = 9 := by rw [eL83]; exact xt_k _ hc76 hk76
                have hc76 : b76 < (xt G L83).1 := by rw [eL83]; exact xt_l _ hc76
                have hk78 : (xt G L83).2.1 b78 = 13 := by rw [eL83]; exact xt_k _ hc78 hk78
                have hc78 : b78 < (xt G L83).1 := by rw [eL83]; exact xt_l _ hc78
                have hk80 : (xt G L83).2.1 b80 = 10 := by rw [eL83]; exact xt_k _ hc80 hk80
                have hc80 : b80 < (xt G L83).1 := by rw [eL83]; exact xt_l _ hc80
                have hag := agr_t (xt_ge _ _) hag hn85
                refine lv_goto (tgt := 398) hx hb dX0_writeBlock_361 (by decide) ?_
                obtain rfl := Option.some.inj hF
                have e1 : L30 = L83 := by rw [hT]; exact List.append_nil _
                have e2 : y28.2 = y81.2 := h2
                rw [e1] at J28
                try rw [e2] at J28
                exact J28 _ hag _ _ _ hP hD hS (lv_sub hl [] rfl)
              clear hF
              have hF := hy66
              clear hy66
              refine lv_if_le (tgt := 323) hx hb dX0_writeBlock_315 (by decide) (fun c86 => ?_) (fun c86 => ?_)
              · rw [if_pos c86] at hF
                refine lv_iconst (v := (0 : Int32)) hx hb dX0_writeBlock_323 (by decide) ?_
                obtain rfl := Option.some.inj hF
                exact J66 _ _ _ hP hD hS (lv_sub hl [0, 1, 2, 3, 4, 5] rfl)
              · rw [if_neg c86] at hF
                refine lv_bipush (v := (12 : Int32)) hx hb dX0_writeBlock_318 (by decide) ?_
                refine lv_goto (tgt := 324) hx hb dX0_writeBlock_320 (by decide) ?_
                obtain rfl := Option.some.inj hF
                exact J66 _ _ _ hP hD hS (lv_sub hl [0, 1, 2, 3, 4, 5] rfl)
          · rw [if_pos c27] at hF
            refine lv_aload_n hx hb dX0_writeBlock_198 rfl (lv_at hl 4 rfl) ?_
            refine va_get (D := D) (ci := 0) (v := va_re ad12 (y13.1.2 a 3)) (C := RX0) (T := TX0) (N := 21) hx hb hts (by decide +kernel) hown hK hP a (wld_o ct ad12 (xt G L11) y13.1 hc hk (by decide)) rfl 3 (by decide) (hts (.fieldLink RX0 36 "VideoSuite$Coder" "work" "LVideoSuite$Work;") (by decide +kernel)) (fun _ h9 => h9) rfl dX0_writeBlock_199 ?_
            obtain ⟨b87, ho87, hc87, hk87, hF⟩ := dr_some hF
            refine W_st (st' := [.ref (ad12 b87)]) (by rw [va_some ho87]) ?_
            refine va_get (D := D) (ci := 9) (v := va_re ad12 (y13.1.2 b87 6)) (C := RX9) (T := TX9) (N := 20) hx hb hts (by decide +kernel) hown hK hP b87 (wld_o ct ad12 (xt G L11) y13.1 hc87 hk87 (by decide)) rfl 6 (by decide) (hts (.fieldLink RX0 216 "VideoSuite$Work" "info" "[I") (by decide +kernel)) (fun _ h9 => h9) rfl dX0_writeBlock_202 ?_
            refine lv_iload_n hx hb dX0_writeBlock_205 rfl (lv_at hl 3 rfl) ?_
            refine lv_iconst (v := (1 : Int32)) hx hb dX0_writeBlock_206 (by decide) ?_
            refine lv_iadd hx hb dX0_writeBlock_207 ?_
            obtain ⟨x88, ex88, hF⟩ := ltt_some hF
            refine lv_topi (fun zx88 ezx88 => ?_)
            obtain rfl : x88 = zx88 := ex88.trans ezx88.symm
            obtain ⟨b89, ho89, hc89, hk89, hF⟩ := dr_some hF
            refine W_st (st' := [.int x88, .ref (ad12 b89)]) (by rw [va_some ho89]) ?_
            obtain ⟨hvc, hF⟩ := chk_some hF
            refine va_iald hx hb hK hP b89 1 (wld_i ct ad12 (xt G L11) y13.1 hc89 hk89) rfl hvc dX0_writeBlock_208 ?_
            obtain ⟨x90, ex90, hF⟩ := ltt_some hF
            refine lv_topi (fun zx90 ezx90 => ?_)
            obtain rfl : x90 = zx90 := ex90.trans ezx90.symm
            refine lv_istore (lv' := [(6, .int x90), (5, .int y15), (4, .int x8), (3, .int x5), (2, .int x1), (0, .ref (ad12 a)), (1, .int p0)]) hx hb dX0_writeBlock_209 hl (by decide) rfl (fun ls hl => ?_)
            refine lv_aload_n hx hb dX0_writeBlock_211 rfl (lv_at hl 5 rfl) ?_
            refine va_get (D := D) (ci := 0) (v := va_re ad12 (y13.1.2 a 2)) (C := RX0) (T := TX0) (N := 21) hx hb hts (by decide +kernel) hown hK hP a (wld_o ct ad12 (xt G L11) y13.1 hc hk (by decide)) rfl 2 (by decide) (hts (.fieldLink RX0 29 "VideoSuite$Coder" "writer" "LVideoSuite$Writer;") (by decide +kernel)) (fun _ h9 => h9) rfl dX0_writeBlock_212 ?_
            refine lv_iconst (v := (1 : Int32)) hx hb dX0_writeBlock_215 (by decide) ?_
            refine lv_iload hx hb dX0_writeBlock_216 (lv_at hl 0 rfl) ?_
            obtain ⟨b91, ho91, hc91, hk91, hF⟩ := dr_some hF
            refine W_st (st' := [.int x90, .int (1 : Int32), .ref (ad12 b91)]) (by rw [va_some ho91]) ?_
            obtain ⟨y92, hy92, hF⟩ := bnd_some hF
            obtain ⟨w93, hF, ew93⟩ := app_some hF
            obtain ⟨L94, eL94, hF⟩ := ltt_some hF
            have hT94 : L24 = (L11 ++ y92.1) ++ w93.1 := by rw [hT, ew93]; simp only [List.append_assoc]
            have hf9 := wA_in hD hA9 hS
            refine va_callv (va_runV (As := [.int (1 : Int32), .int x90]) (rest := []) ⟨hx, hb, hml, hown, hts⟩ (kX10_ue l D ct ad12 Z (xt G L11) y13.1 _ b91 ((1 : Int32)) x90 y92 hc91 hk91 hy92) (cwV 2 hts gX0_writeBlock_X10_ue rfl rfl rfl (by decide +kernel) ⟨Nat.le_of_ble_eq_true rfl, Nat.le_of_ble_eq_true rfl⟩) ⟨fun a U g mk q => by obtain ⟨q0, q1, qP, qK, qD, qZ, qN⟩ := q; exact ⟨q0, q1, qP, va_K.moved (u := U) (U := U.calling g mk a) (Vm.Alike.refl U.vm) qK, qD, sF.moved (u := U) (U := U.calling g mk a) (Vm.Alike.refl U.vm) qZ, nF.same rfl qN⟩, va_recv hK hP (ci := 10) (q0 := b91) rfl (wld_o ct ad12 (xt G L11) y13.1 hc91 hk91 (by decide)), fun U hU hW => ⟨rfl, by rw [hU], by rw [hU]; exact hP, va_K.moved hW.alike hK, hD.weaken (fun _ _ _ _ => trivial), by rw [hU]; exact ((hZ.kept hS.2.1).narrow hf9).moved hW.alike, hN.warm hW⟩⟩ rfl rfl hl.1 rfl (lv_room (Nat.le_of_ble_eq_true rfl)) dX0_writeBlock_218 (room_s hT94 hbl)) hS (fun q _ h => hf9 q h) hf9 (fun ad95 t H locs ht hvm hw hB hz1 hk1 hS => ?_)
            have hn96 := hw
            obtain ⟨hP, hK9, hD9⟩ := hB
            rw [ht] at hP
            have hD := hD9.weaken (fun _ q _ h => hf9 q.1 h)
            rw [xt_xt, ← eL94] at hP hD
            refine W_cs (k := L94.length) (n := wt L94) (by rw [eL94]; exact (len_s L11 y92.1).symm) (by rw [eL94]; exact (wt_app L11 y92.1).symm) ?_
            have hT : L24 = L94 ++ w93.1 := by rw [hT94, eL94]
            have h2 : y22.2 = w93.2 := by rw [h2, ew93]
            have hl := lv_sub (l' := [(6, .int x90), (3, .int x5), (0, .ref (ad12 a))]) hl [0, 3, 5] rfl
            have e9 : ([(6, .int x90), (3, .int x5), (0, .ref (ad12 a))] : List (Nat × Value)) = [(6, .int x90), (3, .int x5), (0, .ref (ad95 a))] := (by first | rfl | simp only [hn96 a hc])
            rw [e9] at hl
            clear e9
            have hk : (xt G L94).2.1 a = 0 := by rw [eL94]; exact xt_k _ hc hk
            have hc : a < (xt G L94).1 := by rw [eL94]; exact xt_l _ hc
            have hk2 : (xt G L94).2.1 b2 = 9 := by rw [eL94]; exact xt_k _ hc2 hk2
            have hc2 : b2 < (xt G L94).1 := by rw [eL94]; exact xt_l _ hc2
            have hk3 : (xt G L94).2.1 b3 = 3 := by rw [eL94]; exact xt_k _ hc3 hk3
            have hc3 : b3 < (xt G L94).1 := by rw [eL94]; exact xt_l _ hc3
            have hk4 : (xt G L94).2.1 b4 = 13 := by rw [eL94]; exact xt_k _ hc4 hk4
            have hc4 : b4 < (xt G L94).1 := by rw [eL94]; exact xt_l _ hc4
            have hk7 : (xt G L94).2.1 b7 = 13 := by rw [eL94]; exact xt_k _ hc7 hk7
            have hc7 : b7 < (xt G L94).1 := by rw [eL94]; exact xt_l _ hc7
            have hk87 : (xt G L94).2.1 b87 = 9 := by rw [eL94]; exact xt_k _ hc87 hk87
            have hc87 : b87 < (xt G L94).1 := by rw [eL94]; exact xt_l _ hc87
            have hk89 : (xt G L94).2.1 b89 = 13 := by rw [eL94]; exact xt_k _ hc89 hk89
            have hc89 : b89 < (xt G L94).1 := by rw [eL94]; exact xt_l _ hc89
            have hk91 : (xt G L94).2.1 b91 = 10 := by rw [eL94]; exact xt_k _ hc91 hk91
            have hc91 : b91 < (xt G L94).1 := by rw [eL94]; exact xt_l _ hc91
            have hag := agr_t (xt_ge _ _) hag hn96
            refine lv_iconst (v := (0 : Int32)) hx hb dX0_writeBlock_221 (by decide) ?_
            refine lv_istore (lv' := [(7, .int (0 : Int32)), (6, .int x90), (3, .int x5), (0, .ref (ad95 a))]) hx hb dX0_writeBlock_222 hl (by decide) rfl (fun ls hl => ?_)
            obtain ⟨y97, hy97, hF⟩ := bnd_some hF
            obtain ⟨w99, hF, ew99⟩ := app_some hF
            obtain ⟨L100, eL100, hF⟩ := ltt_some hF
            have hT100 : L24 = (L94 ++ y97.1) ++ w99.1 := by rw [hT, ew99]; simp only [List.append_assoc]
            have hbl100 : L100.length ≤ y.1.length ∧ wt L100 ≤ wt y.1 := by rw [eL100]; exact room_d hT100 hbl
            have K97 : ∀ (ad101 : Nat → Nat), agr G.1 ad ad101 → ∀ (H : Heap) (locs : List Loc) (ls : Array Slot), va_P D classes (wld ct ad101 (xt G L100) y97.2.2) H → va_D A (wld ct ad101 (xt G L100) y97.2.2) → va_S A s.heap H locs → lv_has ls 8 [] → W p l e (headSpec wsX0_writeBlock ({ frames := 6, cells := y.1.length, slots := wt y.1, locals := 199 })).room s m ([.ref (ad a), .int p0] : List Value).toArray below meth c H locs (L100 : NN).length (wt L100) (MQ below (va_Qv (fun (u : Nat → Nat) => agr G.1 ad u) (fun u t => kE D ct u (xt G y.1) A y.2 t) A) ([.ref (ad a), .int p0] : List Value).toArray s y.1.length (wt y.1) A) (F0 m 269 ls []) := by
              intro ad101 hag H locs ls hP hD hS hl
              have hT : L24 = L100 ++ w99.1 := by rw [hT100, eL100]
              have h2 : y22.2 = w99.2 := by rw [h2, ew99]
              have hk : (xt G L100).2.1 a = 0 := by rw [eL100]; exact xt_k _ hc hk
              have hc : a < (xt G L100).1 := by rw [eL100]; exact xt_l _ hc
              have hk2 : (xt G L100).2.1 b2 = 9 := by rw [eL100]; exact xt_k _ hc2 hk2
              have hc2 : b2 < (xt G L100).1 := by rw [eL100]; exact xt_l _ hc2
              have hk3 : (xt G L100).2.1 b3 = 3 := by rw [eL100]; exact xt_k _ hc3 hk3
              have hc3 : b3 < (xt G L100).1 := by rw [eL100]; exact xt_l _ hc3
              have hk4 : (xt G L100).2.1 b4 = 13 := by rw [eL100]; exact xt_k _ hc4 hk4
              have hc4 : b4 < (xt G L100).1 := by rw [eL100]; exact xt_l _ hc4
              have hk7 : (xt G L100).2.1 b7 = 13 := by rw [eL100]; exact xt_k _ hc7 hk7
              have hc7 : b7 < (xt G L100).1 := by rw [eL100]; exact xt_l _ hc7
              have hk87 : (xt G L100).2.1 b87 = 9 := by rw [eL100]; exact xt_k _ hc87 hk87
              have hc87 : b87 < (xt G L100).1 := by rw [eL100]; exact xt_l _ hc87
              have hk89 : (xt G L100).2.1 b89 = 13 := by rw [eL100]; exact xt_k _ hc89 hk89
              have hc89 : b89 < (xt G L100).1 := by rw [eL100]; exact xt_l _ hc89
              have hk91 : (xt G L100).2.1 b91 = 10 := by rw [eL100]; exact xt_k _ hc91 hk91
              have hc91 : b91 < (xt G L100).1 := by rw [eL100]; exact xt_l _ hc91
              refine lv_goto (tgt := 398) hx hb dX0_writeBlock_269 (by decide) ?_
              obtain rfl := Option.some.inj hF
              have e1 : L24 = L100 := by rw [hT]; exact List.append_nil _
              have e2 : y22.2 = y97.2.2 := h2
              rw [e1] at J22
              try rw [e2] at J22
              exact J22 _ hag _ _ _ hP hD hS (lv_sub hl [] rfl)
            clear hF
            refine itrA_rule (fun (s98 : NN × Int32 × DD) (r103 : NN) => (∃ t, s98.1 = L94 ++ t) → L100 = s98.1 ++ r103 → ∀ (ad102 : Nat → Nat), agr G.1 ad ad102 → ∀ (H : Heap) (locs : List Loc) (ls : Array Slot), va_P D classes (wld ct ad102 (xt G s98.1) s98.2.2) H → va_D A (wld ct ad102 (xt G s98.1) s98.2.2) → va_S A s.heap H locs → lv_has ls 8 [(7, .int s98.2.1), (6, .int x90), (3, .int x5), (0, .ref (ad102 a))] → W p l e (headSpec wsX0_writeBlock ({ frames := 6, cells := y.1.length, slots := wt y.1, locals := 199 })).room s m ([.ref (ad a), .int p0] : List Value).toArray below meth c H locs (s98.1 : NN).length (wt s98.1) (MQ below (va_Qv (fun (u : Nat → Nat) => agr G.1 ad u) (fun u t => kE D ct u (xt G y.1) A y.2 t) A) ([.ref (ad a), .int p0] : List Value).toArray s y.1.length (wt y.1) A) (F0 m 224 ls [])) ?_ _ _ _ hy97 ⟨[], (List.append_nil _).symm⟩ eL100 _ hag _ _ _ hP hD hS (lv_sub hl [0, 1, 2, 3] rfl)
            rintro s98 r103 ⟨z104, hF, ⟨t97, et97⟩, hwz104⟩ ⟨u97, eu97⟩ eq97 ad102 hag H locs ls hP hD hS hl
            try dsimp only at hF
            obtain ⟨L105, eL105⟩ : ∃ x, x = s98.1 ++ z104.1 := ⟨_, rfl⟩
            obtain ⟨w106, hw106⟩ : ∃ x, x = z104 := ⟨_, rfl⟩
            rw [← hw106] at hF
            have hbl : L105.length ≤ y.1.length ∧ wt L105 ≤ wt y.1 := room_d (show L100 = L105 ++ t97 by rw [eq97, et97, eL105]; simp only [List.append_assoc]) hbl100
            have hT : L105 = s98.1 ++ w106.1 := by rw [eL105, hw106]
            have h2 : z104.2 = w106.2 := by rw [hw106]
            have hk : (xt G s98.1).2.1 a = 0 := by rw [eu97]; exact xt_k _ hc hk
            have hc : a < (xt G s98.1).1 := by rw [eu97]; exact xt_l _ hc
            have hk2 : (xt G s98.1).2.1 b2 = 9 := by rw [eu97]; exact xt_k _ hc2 hk2
            have hc2 : b2 < (xt G s98.1).1 := by rw [eu97]; exact xt_l _ hc2
            have hk3 : (xt G s98.1).2.1 b3 = 3 := by rw [eu97]; exact xt_k _ hc3 hk3
            have hc3 : b3 < (xt G s98.1).1 := by rw [eu97]; exact xt_l _ hc3
            have hk4 : (xt G s98.1).2.1 b4 = 13 := by rw [eu97]; exact xt_k _ hc4 hk4
            have hc4 : b4 < (xt G s98.1).1 := by rw [eu97]; exact xt_l _ hc4
            have hk7 : (xt G s98.1).2.1 b7 = 13 := by rw [eu97]; exact xt_k _ hc7 hk7
            have hc7 : b7 < (xt G s98.1).1 := by rw [eu97]; exact xt_l _ hc7
            have hk87 : (xt G s98.1).2.1 b87 = 9 := by rw [eu97]; exact xt_k _ hc87 hk87
            have hc87 : b87 < (xt G s98.1).1 := by rw [eu97]; exact xt_l _ hc87
            have hk89 : (xt G s98.1).2.1 b89 = 13 := by rw [eu97]; exact xt_k _ hc89 hk89
            have hc89 : b89 < (xt G s98.1).1 := by rw [eu97]; exact xt_l _ hc89
            have hk91 : (xt G s98.1).2.1 b91 = 10 := by rw [eu97]; exact xt_k _ hc91 hk91
            have hc91 : b91 < (xt G s98.1).1 := by rw [eu97]; exact xt_l _ hc91
            refine lv_iload hx hb dX0_writeBlock_224 (lv_at hl 0 rfl) ?_
            refine lv_iconst (v := (4 : Int32)) hx hb dX0_writeBlock_226 (by decide) ?_
            refine lv_icmp_ge (tgt := 269) hx hb dX0_writeBlock_227 (by decide) (fun c107 => ?_) (fun c107 => ?_)
            · rw [if_pos c107] at hF
              obtain rfl := Option.some.inj hF
              have e1 : L105 = s98.1 := by rw [hT]; exact List.append_nil _
              have e2 : z104.2 = .inr ((s98.2.1, s98.2.2)) := h2
              rw [e2] at hwz104
              obtain ⟨hw1, hw2⟩ := hwz104
              have e8 : L100 = s98.1 := by rw [eq97, hw2, ← eL105, e1]
              rw [e8] at K97
              try rw [← hw1] at K97
              exact K97 _ hag _ _ _ hP hD hS (lv_sub hl [] rfl)
            · rw [if_neg c107] at hF
              refine lv_iload hx hb dX0_writeBlock_230 (lv_at hl 1 rfl) ?_
              refine lv_iload_n hx hb dX0_writeBlock_232 rfl (lv_at hl 2 rfl) ?_
              obtain ⟨y108, hy108, hF⟩ := bnd_some hF
              have J108 : ∀ (H : Heap) (locs : List Loc) (ls : Array Slot), va_P D classes (wld ct ad102 (xt G s98.1) s98.2.2) H → va_D A (wld ct ad102 (xt G s98.1) s98.2.2) → va_S A s.heap H locs → lv_has ls 8 [(7, .int s98.2.1), (6, .int x90), (3, .int x5), (0, .ref (ad102 a))] → W p l e (headSpec wsX0_writeBlock ({ frames := 6, cells := y.1.length, slots := wt y.1, locals := 199 })).room s m ([.ref (ad a), .int p0] : List Value).toArray below meth c H locs (s98.1 : NN).length (wt s98.1) (MQ below (va_Qv (fun (u : Nat → Nat) => agr G.1 ad u) (fun u t => kE D ct u (xt G y.1) A y.2 t) A) ([.ref (ad a), .int p0] : List Value).toArray s y.1.length (wt y.1) A) (F0 m 242 ls [.int y108, .int x90]) := by
                intro H locs ls hP hD hS hl
                refine lv_icmp_ne (tgt := 269) hx hb dX0_writeBlock_242 (by decide) (fun c109 => ?_) (fun c109 => ?_)
                · rw [if_neg c109] at hF
                  obtain rfl := Option.some.inj hF
                  have e1 : L105 = s98.1 := by rw [hT]; exact List.append_nil _
                  have e2 : z104.2 = .inr ((s98.2.1, s98.2.2)) := h2
                  rw [e2] at hwz104
                  obtain ⟨hw1, hw2⟩ := hwz104
                  have e8 : L100 = s98.1 := by rw [eq97, hw2, ← eL105, e1]
                  rw [e8] at K97
                  try rw [← hw1] at K97
                  exact K97 _ hag _ _ _ hP hD hS (lv_sub hl [] rfl)
                · rw [if_pos c109] at hF
                  refine lv_aload_n hx hb dX0_writeBlock_245 rfl (lv_at hl 3 rfl) ?_
                  refine va_get (D := D) (ci := 0) (v := va_re ad102 (s98.2.2.2 a 2)) (C := RX0) (T := TX0) (N := 21) hx hb hts (by decide +kernel) hown hK hP a (wld_o ct ad102 (xt G s98.1) s98.2.2 hc hk (by decide)) rfl 2 (by decide) (hts (.fieldLink RX0 29 "VideoSuite$Coder" "writer" "LVideoSuite$Writer;") (by decide +kernel)) (fun _ h9 => h9) rfl dX0_writeBlock_246 ?_
                  refine lv_iconst (v := (5 : Int32)) hx hb dX0_writeBlock_249 (by decide) ?_
                  refine lv_aload_n hx hb dX0_writeBlock_250 rfl (lv_at hl 3 rfl) ?_
                  refine va_get (D := D) (ci := 0) (v := va_re ad102 (s98.2.2.2 a 3)) (C := RX0) (T := TX0) (N := 21) hx hb hts (by decide +kernel) hown hK hP a (wld_o ct ad102 (xt G s98.1) s98.2.2 hc hk (by decide)) rfl 3 (by decide) (hts (.fieldLink RX0 36 "VideoSuite$Coder" "work" "LVideoSuite$Work;") (by decide +kernel)) (fun _ h9 => h9) rfl dX0_writeBlock_251 ?_
                  obtain ⟨b110, ho110, hc110, hk110, hF⟩ := dr_some hF
                  refine W_st (st' := [.ref (ad102 b110), .int (5 : Int32), va_re ad102 (s98.2.2.2 a 2)]) (by rw [va_some ho110]) ?_
                  refine va_get (D := D) (ci := 9) (v := va_re ad102 (s98.2.2.2 b110 12)) (C := RX9) (T := TX9) (N := 20) hx hb hts (by decide +kernel) hown hK hP b110 (wld_o ct ad102 (xt G s98.1) s98.2.2 hc110 hk110 (by decide)) rfl 12 (by decide) (hts (.fieldLink RX0 400 "VideoSuite$Work" "sub" "[I") (by decide +kernel)) (fun _ h9 => h9) rfl dX0_writeBlock_254 ?_
                  refine lv_iload hx hb dX0_writeBlock_257 (lv_at hl 0 rfl) ?_
                  obtain ⟨b111, ho111, hc111, hk111, hF⟩ := dr_some hF
                  refine W_st (st' := [.int s98.2.1, .ref (ad102 b111), .int (5 : Int32), va_re ad102 (s98.2.2.2 a 2)]) (by rw [va_some ho111]) ?_
                  obtain ⟨hvc, hF⟩ := chk_some hF
                  refine va_iald hx hb hK hP b111 1 (wld_i ct ad102 (xt G s98.1) s98.2.2 hc111 hk111) rfl hvc dX0_writeBlock_259 ?_
                  obtain ⟨x112, ex112, hF⟩ := ltt_some hF
                  refine lv_topi (fun zx112 ezx112 => ?_)
                  obtain rfl : x112 = zx112 := ex112.trans ezx112.symm
                  obtain ⟨b113, ho113, hc113, hk113, hF⟩ := dr_some hF
                  refine W_st (st' := [.int x112, .int (5 : Int32), .ref (ad102 b113)]) (by rw [va_some ho113]) ?_
                  obtain ⟨y114, hy114, hF⟩ := bnd_some hF
                  obtain ⟨w115, hF, ew115⟩ := app_some hF
                  obtain ⟨L116, eL116, hF⟩ := ltt_some hF
                  have hT116 : L105 = (s98.1 ++ y114.1) ++ w115.1 := by rw [hT, ew115]; simp only [List.append_assoc]
                  have hf9 := wA_in hD hA9 hS
                  refine va_callv (va_runV (As := [.int (5 : Int32), .int x112]) (rest := []) ⟨hx, hb, hml, hown, hts⟩ (kX10_ue l D ct ad102 Z (xt G s98.1) s98.2.2 _ b113 ((5 : Int32)) x112 y114 hc113 hk113 hy114) (cwV 2 hts gX0_writeBlock_X10_ue rfl rfl rfl (by decide +kernel) ⟨Nat.le_of_ble_eq_true rfl, Nat.le_of_ble_eq_true rfl⟩) ⟨fun a U g mk q => by obtain ⟨q0, q1, qP, qK, qD, qZ, qN⟩ := q; exact ⟨q0, q1, qP, va_K.moved (u := U) (U := U.calling g mk a) (Vm.Alike.refl U.vm) qK, qD, sF.moved (u := U) (U := U.calling g mk a) (Vm.Alike.refl U.vm) qZ, nF.same rfl qN⟩, va_recv hK hP (ci := 10) (q0 := b113) rfl (wld_o ct ad102 (xt G s98.1) s98.2.2 hc113 hk113 (by decide)), fun U hU hW => ⟨rfl, by rw [hU], by rw [hU]; exact hP, va_K.moved hW.alike hK, hD.weaken (fun _ _ _ _ => trivial), by rw [hU]; exact ((hZ.kept hS.2.1).narrow hf9).moved hW.alike, hN.warm hW⟩⟩ rfl rfl hl.1 rfl (lv_room (Nat.le_of_ble_eq_true rfl)) dX0_writeBlock_260 (room_s hT116 hbl)) hS (fun q _ h => hf9 q h) hf9 (fun ad117 t H locs ht hvm hw hB hz1 hk1 hS => ?_)
                  have hn118 := hw
                  obtain ⟨hP, hK9, hD9⟩ := hB
                  rw [ht] at hP
                  have hD := hD9.weaken (fun _ q _ h => hf9 q.1 h)
                  rw [xt_xt, ← eL116] at hP hD
                  refine W_cs (k := L116.length) (n := wt L116) (by rw [eL116]; exact (len_s s98.1 y114.1).symm) (by rw [eL116]; exact (wt_app s98.1 y114.1).symm) ?_
                  have hT : L105 = L116 ++ w115.1 := by rw [hT116, eL116]
                  have h2 : z104.2 = w115.2 := by rw [h2, ew115]
                  have hl := lv_sub (l' := [(7, .int s98.2.1), (6, .int x90), (3, .int x5), (0, .ref (ad102 a))]) hl [0, 1, 2, 3] rfl
                  have e9 : ([(7, .int s98.2.1), (6, .int x90), (3, .int x5), (0, .ref (ad102 a))] : List (Nat × Value)) = [(7, .int s98.2.1), (6, .int x90), (3, .int x5), (0, .ref (ad117 a))] := (by first | rfl | simp only [hn118 a hc])
                  rw [e9] at hl
                  clear e9
                  have hk : (xt G L116).2.1 a = 0 := by rw [eL116]; exact xt_k _ hc hk
                  have hc : a < (xt G L116).1 := by rw [eL116]; exact xt_l _ hc
                  have hk2 : (xt G L116).2.1 b2 = 9 := by rw [eL116]; exact xt_k _ hc2 hk2
                  have hc2 : b2 < (xt G L116).1 := by rw [eL116]; exact xt_l _ hc2
                  have hk3 : (xt G L116).2.1 b3 = 3 := by rw [eL116]; exact xt_k _ hc3 hk3
                  have hc3 : b3 < (xt G L116).1 := by rw [eL116]; exact xt_l _ hc3
                  have hk4 : (xt G L116).2.1 b4 = 13 := by rw [eL116]; exact xt_k _ hc4 hk4
                  have hc4 : b4 < (xt G L116).1 := by rw [eL116]; exact xt_l _ hc4
                  have hk7 : (xt G L116).2.1 b7 = 13 := by rw [eL116]; exact xt_k _ hc7 hk7
                  have hc7 : b7 < (xt G L116).1 := by rw [eL116]; exact xt_l _ hc7
                  have hk87 : (xt G L116).2.1 b87 = 9 := by rw [eL116]; exact xt_k _ hc87 hk87
                  have hc87 : b87 < (xt G L116).1 := by rw [eL116]; exact xt_l _ hc87
                  have hk89 : (xt G L116).2.1 b89 = 13 := by rw [eL116]; exact xt_k _ hc89 hk89
                  have hc89 : b89 < (xt G L116).1 := by rw [eL116]; exact xt_l _ hc89
                  have hk91 : (xt G L116).2.1 b91 = 10 := by rw [eL116]; exact xt_k _ hc91 hk91
                  have hc91 : b91 < (xt G L116).1 := by rw [eL116]; exact xt_l _ hc91
                  have hk110 : (xt G L116).2.1 b110 = 9 := by rw [eL116]; exact xt_k _ hc110 hk110
                  have hc110 : b110 < (xt G L116).1 := by rw [eL116]; exact xt_l _ hc110
                  have hk111 : (xt G L116).2.1 b111 = 13 := by rw [eL116]; exact xt_k _ hc111 hk111
                  have hc111 : b111 < (xt G L116).1 := by rw [eL116]; exact xt_l _ hc111
                  have hk113 : (xt G L116).2.1 b113 = 10 := by rw [eL116]; exact xt_k _ hc113 hk113
                  have hc113 : b113 < (xt G L116).1 := by rw [eL116]; exact xt_l _ hc113
                  have hag := agr_t (xt_ge _ _) hag hn118
                  obtain ⟨x119, ex119, hF⟩ := ltt_some hF
                  refine lv_iinc (v := x119) (lv' := [(7, .int x119), (6, .int x90), (3, .int x5), (0, .ref (ad117 a))]) hx hb dX0_writeBlock_263 hl (k := 0) rfl (by rw [ex119]; rfl) (by decide) rfl (fun ls hl => ?_)
                  refine lv_goto (tgt := 224) hx hb dX0_writeBlock_266 (by decide) ?_
                  obtain rfl := Option.some.inj hF
                  have e1 : L105 = L116 := by rw [hT]; exact List.append_nil _
                  have e2 : z104.2 = .inl (L116, (x119, y114.2)) := h2
                  rw [e2] at hwz104
                  obtain ⟨r2, er2, hwz104⟩ := hwz104
                  exact hwz104 ⟨u97 ++ z104.1, by show L116 = _; rw [← e1, eL105, eu97]; simp only [List.append_assoc]⟩ (by show L100 = L116 ++ r2; rw [eq97, er2, ← e1, eL105]; simp only [List.append_assoc]) _ hag _ _ _ hP hD hS (lv_sub hl [0, 1, 2, 3] rfl)
              clear hF
              have hF := hy108
              clear hy108
              refine lv_if_ne (tgt := 240) hx hb dX0_writeBlock_233 (by decide) (fun c120 => ?_) (fun c120 => ?_)
              · rw [if_neg c120] at hF
                refine lv_bipush (v := (22 : Int32)) hx hb dX0_writeBlock_240 (by decide) ?_
                obtain rfl := Option.some.inj hF
                exact J108 _ _ _ hP hD hS (lv_sub hl [0, 1, 2, 3] rfl)
              · rw [if_pos c120] at hF
                refine lv_iconst (v := (3 : Int32)) hx hb dX0_writeBlock_236 (by decide) ?_
                refine lv_goto (tgt := 242) hx hb dX0_writeBlock_237 (by decide) ?_
                obtain rfl := Option.some.inj hF
                exact J108 _ _ _ hP hD hS (lv_sub hl [0, 1, 2, 3] rfl)
        · rw [if_pos c21] at hF
          refine lv_aload_n hx hb dX0_writeBlock_162 rfl (lv_at hl 4 rfl) ?_
          refine va_get (D := D) (ci := 0) (v := va_re ad12 (y13.1.2 a 2)) (C := RX0) (T := TX0) (N := 21) hx hb hts (by decide +kernel) hown hK hP a (wld_o ct ad12 (xt G L11) y13.1 hc hk (by decide)) rfl 2 (by decide) (hts (.fieldLink RX0 29 "VideoSuite$Coder" "writer" "LVideoSuite$Writer;") (by decide +kernel)) (fun _ h9 => h9) rfl dX0_writeBlock_163 ?_
          refine lv_iconst (v := (1 : Int32)) hx hb dX0_writeBlock_166 (by decide) ?_
          refine lv_iload hx hb dX0_writeBlock_167 (lv_at hl 0 rfl) ?_
          refine lv_bipush (v := (25 : Int32)) hx hb dX0_writeBlock_169 (by decide) ?_
          refine lv_iadd hx hb dX0_writeBlock_171 ?_
          obtain ⟨x121, ex121, hF⟩ := ltt_some hF
          refine lv_topi (fun zx121 ezx121 => ?_)
          obtain rfl : x121 = zx121 := ex121.trans ezx121.symm
          obtain ⟨b122, ho122, hc122, hk122, hF⟩ := dr_some hF
          refine W_st (st' := [.int x121, .int (1 : Int32), .ref (ad12 b122)]) (by rw [va_some ho122]) ?_
          obtain ⟨y123, hy123, hF⟩ := bnd_some hF
          obtain ⟨w124, hF, ew124⟩ := app_some hF
          obtain ⟨L125, eL125, hF⟩ := ltt_some hF
          have hT125 : L18 = (L11 ++ y123.1) ++ w124.1 := by rw [hT, ew124]; simp only [List.append_assoc]
          have hf9 := wA_in hD hA9 hS
          refine va_callv (va_runV (As := [.int (1 : Int32), .int x121]) (rest := []) ⟨hx, hb, hml, hown, hts⟩ (kX10_ue l D ct ad12 Z (xt G L11) y13.1 _ b122 ((1 : Int32)) x121 y123 hc122 hk122 hy123) (cwV 2 hts gX0_writeBlock_X10_ue rfl rfl rfl (by decide +kernel) ⟨Nat.le_of_ble_eq_true rfl, Nat.le_of_ble_eq_true rfl⟩) ⟨fun a U g mk q => by obtain ⟨q0, q1, qP, qK, qD, qZ, qN⟩ := q; exact ⟨q0, q1, qP, va_K.moved (u := U) (U := U.calling g mk a) (Vm.Alike.refl U.vm) qK, qD, sF.moved (u := U) (U := U.calling g mk a) (Vm.Alike.refl U.vm) qZ, nF.same rfl qN⟩, va_recv hK hP (ci := 10) (q0 := b122) rfl (wld_o ct ad12 (xt G L11) y13.1 hc122 hk122 (by decide)), fun U hU hW => ⟨rfl, by rw [hU], by rw [hU]; exact hP, va_K.moved hW.alike hK, hD.weaken (fun _ _ _ _ => trivial), by rw [hU]; exact ((hZ.kept hS.2.1).narrow hf9).moved hW.alike, hN.warm hW⟩⟩ rfl rfl hl.1 rfl (lv_room (Nat.le_of_ble_eq_true rfl)) dX0_writeBlock_172 (room_s hT125 hbl)) hS (fun q _ h => hf9 q h) hf9 (fun ad126 t H locs ht hvm hw hB hz1 hk1 hS => ?_)
          have hn127 := hw
          obtain ⟨hP, hK9, hD9⟩ := hB
          rw [ht] at hP
          have hD := hD9.weaken (fun _ q _ h => hf9 q.1 h)
          rw [xt_xt, ← eL125] at hP hD
          refine W_cs (k := L125.length) (n := wt L125) (by rw [eL125]; exact (len_s L11 y123.1).symm) (by rw [eL125]; exact (wt_app L11 y123.1).symm) ?_
          have hT : L18 = L125 ++ w124.1 := by rw [hT125, eL125]
          have h2 : y16.2 = w124.2 := by rw [h2, ew124]
          have hl := lv_sub (l' := [(0, .ref (ad12 a))]) hl [4] rfl
          have e9 : ([(0, .ref (ad12 a))] : List (Nat × Value)) = [(0, .ref (ad126 a))] := (by first | rfl | simp only [hn127 a hc])
          rw [e9] at hl
          clear e9
          have hk : (xt G L125).2.1 a = 0 := by rw [eL125]; exact xt_k _ hc hk
          have hc : a < (xt G L125).1 := by rw [eL125]; exact xt_l _ hc
          have hk2 : (xt G L125).2.1 b2 = 9 := by rw [eL125]; exact xt_k _ hc2 hk2
          have hc2 : b2 < (xt G L125).1 := by rw [eL125]; exact xt_l _ hc2
          have hk3 : (xt G L125).2.1 b3 = 3 := by rw [eL125]; exact xt_k _ hc3 hk3
          have hc3 : b3 < (xt G L125).1 := by rw [eL125]; exact xt_l _ hc3
          have hk4 : (xt G L125).2.1 b4 = 13 := by rw [eL125]; exact xt_k _ hc4 hk4
          have hc4 : b4 < (xt G L125).1 := by rw [eL125]; exact xt_l _ hc4
          have hk7 : (xt G L125).2.1 b7 = 13 := by rw [eL125]; exact xt_k _ hc7 hk7
          have hc7 : b7 < (xt G L125).1 := by rw [eL125]; exact xt_l _ hc7
          have hk122 : (xt G L125).2.1 b122 = 10 := by rw [eL125]; exact xt_k _ hc122 hk122
          have hc122 : b122 < (xt G L125).1 := by rw [eL125]; exact xt_l _ hc122
          have hag := agr_t (xt_ge _ _) hag hn127
          refine lv_aload_n hx hb dX0_writeBlock_175 rfl (lv_at hl 0 rfl) ?_
          refine va_get (D := D) (ci := 0) (v := va_re ad126 (y123.2.2 a 2)) (C := RX0) (T := TX0) (N := 21) hx hb hts (by decide +kernel) hown hK hP a (wld_o ct ad126 (xt G L125) y123.2 hc hk (by decide)) rfl 2 (by decide) (hts (.fieldLink RX0 29 "VideoSuite$Coder" "writer" "LVideoSuite$Writer;") (by decide +kernel)) (fun _ h9 => h9) rfl dX0_writeBlock_176 ?_
          refine lv_aload_n hx hb dX0_writeBlock_179 rfl (lv_at hl 0 rfl) ?_
          refine va_get (D := D) (ci := 0) (v := va_re ad126 (y123.2.2 a 4)) (C := RX0) (T := TX0) (N := 21) hx hb hts (by decide +kernel) hown hK hP a (wld_o ct ad126 (xt G L125) y123.2 hc hk (by decide)) rfl 4 (by decide) (hts (.fieldLink RX0 43 "VideoSuite$Coder" "samples" "LVideoSuite$Samples;") (by decide +kernel)) (fun _ h9 => h9) rfl dX0_writeBlock_180 ?_
          obtain ⟨b128, ho128, hc128, hk128, hF⟩ := dr_some hF
          refine W_st (st' := [.ref (ad126 b128), va_re ad126 (y123.2.2 a 2)]) (by rw [va_some ho128]) ?_
          refine va_get (D := D) (ci := 6) (v := va_re ad126 (y123.2.2 b128 0)) (C := RX6) (T := TX6) (N := 14) hx hb hts (by decide +kernel) hown hK hP b128 (wld_o ct ad126 (xt G L125) y123.2 hc128 hk128 (by decide)) rfl 0 (by decide) (hts (.fieldLink RX0 566 "VideoSuite$Samples" "guess" "[I") (by decide +kernel)) (fun _ h9 => h9) rfl dX0_writeBlock_183 ?_
          obtain ⟨b129, ho129, hc129, hk129, hF⟩ := dr_some hF
          refine W_st (st' := [va_re ad126 (y123.2.2 b128 0), .ref (ad126 b129)]) (by rw [va_some ho129]) ?_
          obtain ⟨y130, hy130, hF⟩ := bnd_some hF
          obtain ⟨w131, hF, ew131⟩ := app_some hF
          obtain ⟨L132, eL132, hF⟩ := ltt_some hF
          have hT132 : L18 = (L125 ++ y130.1) ++ w131.1 := by rw [hT, ew131]; simp only [List.append_assoc]
          have hf9 := wA_in hD hA9 hS
          refine va_callv (va_runV (As := [va_re ad126 (y123.2.2 b128 0)]) (rest := []) ⟨hx, hb, hml, hown, hts⟩ (kX10_rawSamples l D ct ad126 Z (xt G L125) y123.2 _ b129 ((y123.2.2 b128 0)) y130 hc129 hk129 hy130) (cwV 1 hts gX0_writeBlock_X10_rawSamples rfl rfl rfl (by decide +kernel) ⟨Nat.le_of_ble_eq_true rfl, Nat.le_of_ble_eq_true rfl⟩) ⟨fun a U g mk q => by obtain ⟨q0, q1, qP, qK, qD, qZ, qN⟩ := q; exact ⟨q0, q1, qP, va_K.moved (u := U) (U := U.calling g mk a) (Vm.Alike.refl U.vm) qK, qD, sF.moved (u := U) (U := U.calling g mk a) (Vm.Alike.refl U.vm) qZ, nF.same rfl qN⟩, va_recv hK hP (ci := 10) (q0 := b129) rfl (wld_o ct ad126 (xt G L125) y123.2 hc129 hk129 (by decide)), fun U hU hW => ⟨rfl, by rw [hU], by rw [hU]; exact hP, va_K.moved hW.alike hK, hD.weaken (fun _ _ _ _ => trivial), by rw [hU]; exact ((hZ.kept hS.2.1).narrow hf9).moved hW.alike, hN.warm hW⟩⟩ rfl rfl hl.1 rfl (lv_room (Nat.le_of_ble_eq_true rfl)) dX0_writeBlock_186 (room_s hT132 hbl)) hS (fun q _ h => hf9 q h) hf9 (fun ad133 t H locs ht hvm hw hB hz1 hk1 hS => ?_)
          have hn134 := hw
          obtain ⟨hP, hK9, hD9⟩ := hB
          rw [ht] at hP
          have hD := hD9.weaken (fun _ q _ h => hf9 q.1 h)
          rw [xt_xt, ← eL132] at hP hD
          refine W_cs (k := L132.length) (n := wt L132) (by rw [eL132]; exact (len_s L125 y130.1).symm) (by rw [eL132]; exact (wt_app L125 y130.1).symm) ?_
          have hT : L18 = L132 ++ w131.1 := by rw [hT132, eL132]
          have h2 : y16.2 = w131.2 := by rw [h2, ew131]
          have hl := lv_sub (l' := []) hl [] rfl
          have hk : (xt G L132).2.1 a = 0 := by rw [eL132]; exact xt_k _ hc hk
          have hc : a < (xt G L132).1 := by rw [eL132]; exact xt_l _ hc
          have hk2 : (xt G L132).2.1 b2 = 9 := by rw [eL132]; exact xt_k _ hc2 hk2
          have hc2 : b2 < (xt G L132).1 := by rw [eL132]; exact xt_l _ hc2
          have hk3 : (xt G L132).2.1 b3 = 3 := by rw [eL132]; exact xt_k _ hc3 hk3
          have hc3 : b3 < (xt G L132).1 := by rw [eL132]; exact xt_l _ hc3
          have hk4 : (xt G L132).2.1 b4 = 13 := by rw [eL132]; exact xt_k _ hc4 hk4
          have hc4 : b4 < (xt G L132).1 := by rw [eL132]; exact xt_l _ hc4
          have hk7 : (xt G L132).2.1 b7 = 13 := by rw [eL132]; exact xt_k _ hc7 hk7
          have hc7 : b7 < (xt G L132).1 := by rw [eL132]; exact xt_l _ hc7
          have hk122 : (xt G L132).2.1 b122 = 10 := by rw [eL132]; exact xt_k _ hc122 hk122
          have hc122 : b122 < (xt G L132).1 := by rw [eL132]; exact xt_l _ hc122
          have hk128 : (xt G L132).2.1 b128 = 6 := by rw [eL132]; exact xt_k _ hc128 hk128
          have hc128 : b128 < (xt G L132).1 := by rw [eL132]; exact xt_l _ hc128
          have hk129 : (xt G L132).2.1 b129 = 10 := by rw [eL132]; exact xt_k _ hc129 hk129
          have hc129 : b129 < (xt G L132).1 := by rw [eL132]; exact xt_l _ hc129
          have hag := agr_t (xt_ge _ _) hag hn134
          refine lv_goto (tgt := 398) hx hb dX0_writeBlock_189 (by decide) ?_
          obtain rfl := Option.some.inj hF
          have e1 : L18 = L132 := by rw [hT]; exact List.append_nil _
          have e2 : y16.2 = y130.2 := h2
          rw [e1] at J16
          try rw [e2] at J16
          exact J16 _ hag _ _ _ hP hD hS (lv_sub hl [] rfl)
      clear hF
      have hF := hy15
      clear hy15
      refine lv_icmp_ne (tgt := 144) hx hb dX0_writeBlock_137 (by decide) (fun c135 => ?_) (fun c135 => ?_)
      · rw [if_neg c135] at hF
        refine lv_iload_n hx hb dX0_writeBlock_144 rfl (lv_at hl 1 rfl) ?_
        obtain ⟨y136, hy136, hF⟩ := bnd_some hF
        have J136 : ∀ (H : Heap) (locs : List Loc) (ls : Array Slot), va_P D classes (wld ct ad12 (xt G L11) y13.1) H → va_D A (wld ct ad12 (xt G L11) y13.1) → va_S A s.heap H locs → lv_has ls 8 [(4, .int x8), (3, .int x5), (2, .int x1), (0, .ref (ad12 a)), (1, .int p0)] → W p l e (headSpec wsX0_writeBlock ({ frames := 6, cells := y.1.length, slots := wt y.1, locals := 199 })).room s m ([.ref (ad a), .int p0] : List Value).toArray below meth c H locs (L11 : NN).length (wt L11) (MQ below (va_Qv (fun (u : Nat → Nat) => agr G.1 ad u) (fun u t => kE D ct u (xt G y.1) A y.2 t) A) ([.ref (ad a), .int p0] : List Value).toArray s y.1.length (wt y.1) A) (F0 m 154 ls [.int y136]) := by
          intro H locs ls hP hD hS hl
          obtain rfl := Option.some.inj hF
          exact J15 _ _ _ hP hD hS (lv_sub hl [0, 1, 2, 3, 4] rfl)
        clear hF
        have hF := hy136
        clear hy136
        refine lv_if_ne (tgt := 152) hx hb dX0_writeBlock_145 (by decide) (fun c137 => ?_) (fun c137 => ?_)
        · rw [if_neg c137] at hF
          refine lv_bipush (v := (23 : Int32)) hx hb dX0_writeBlock_152 (by decide) ?_
          obtain rfl := Option.some.inj hF
          exact J136 _ _ _ hP hD hS (lv_sub hl [0, 1, 2, 3, 4] rfl)
        · rw [if_pos c137] at hF
          refine lv_iconst (v := (5 : Int32)) hx hb dX0_writeBlock_148 (by decide) ?_
          refine lv_goto (tgt := 154) hx hb dX0_writeBlock_149 (by decide) ?_
          obtain rfl := Option.some.inj hF
          exact J136 _ _ _ hP hD hS (lv_sub hl [0, 1, 2, 3, 4] rfl)
      · rw [if_pos c135] at hF
        refine lv_iconst (v := (0 : Int32)) hx hb dX0_writeBlock_140 (by decide) ?_
        refine lv_goto (tgt := 154) hx hb dX0_writeBlock_141 (by decide) ?_
        obtain rfl := Option.some.inj hF
        exact J15 _ _ _ hP hD hS (lv_sub hl [0, 1, 2, 3, 4] rfl)
    · rw [if_neg c14] at hF
      obtain rfl := Option.some.inj hF
      have e1 : y.1 = L11 := by rw [hT]; exact List.append_nil _
      have e2 : y.2 = y13.1 := h2
      refine W.widen (k := y.1.length) (n := wt y.1) (Nat.le_of_eq (by rw [e1])) (Nat.le_of_eq (by rw [e1])) ?_
      exact W.vret hx hb hr (fun t ht hW => ⟨⟨ad12, rfl, hag, (by unfold kE; rw [e1, e2]; exact ⟨by rw [ht]; exact hP, va_K.moved hW.alike hK, hD⟩)⟩, hS.F ht⟩) hS.2.2 dX0_writeBlock_134
  clear hF
  obtain ⟨w138, hw138⟩ : ∃ z, z = y9 := ⟨_, rfl⟩
  have hF := hy9
  rw [← hw138] at hF
  clear hy9
  have hT : L11 = [] ++ w138.1 := by rw [eL11, hw138]
  have h2 : y9.2 = w138.2 := by rw [hw138]
  have hbl := hbl11
  refine lv_icmp_eq (tgt := 74) hx hb dX0_writeBlock_33 (by decide) (fun c139 => ?_) (fun c139 => ?_)
  · rw [if_pos c139] at hF
    refine lv_aload_n hx hb dX0_writeBlock_74 rfl (lv_at hl 3 rfl) ?_
    refine lv_iload_n hx hb dX0_writeBlock_75 rfl (lv_at hl 4 rfl) ?_
    obtain ⟨y140, hy140, hF⟩ := bnd_some hF
    have hf9 := wA_in hD hA9 hS
    refine va_calli (va_runV (As := [.int p0]) (rest := []) ⟨hx, hb, hml, hown, hts⟩ (kX0_isSkipped l D ct ad Z (xt G []) M s.heap.size a p0 y140 hc hk hy140) (cwV 1 hts gX0_writeBlock_X0_isSkipped rfl rfl rfl (by decide +kernel) ⟨Nat.le_of_ble_eq_true rfl, Nat.le_of_ble_eq_true rfl⟩) ⟨fun a U g mk q => by obtain ⟨q0, q1, qP, qK, qD, qZ, qN⟩ := q; exact ⟨q0, q1, qP, va_K.moved (u := U) (U := U.calling g mk a) (Vm.Alike.refl U.vm) qK, qD, sF.moved (u := U) (U := U.calling g mk a) (Vm.Alike.refl U.vm) qZ, nF.same rfl qN⟩, va_recv hK hP (ci := 0) (q0 := a) rfl (wld_o ct ad (xt G []) M hc hk (by decide)), fun U hU hW => ⟨rfl, by rw [hU], by rw [hU]; exact hP, va_K.moved hW.alike hK, hD.weaken (fun _ _ _ _ => trivial), by rw [hU]; exact ((hZ.kept hS.2.1).narrow hf9).moved hW.alike, hN.warm hW⟩⟩ rfl rfl hl.1 rfl (lv_room (Nat.le_of_ble_eq_true rfl)) dX0_writeBlock_76 (room_d hT hbl)) hS (fun q _ h => hf9 q h) hf9 (fun r u t H locs ht hvm hw hB hz1 hk1 hS => ?_)
    obtain ⟨hP, hK9, hD9⟩ := hB
    rw [ht] at hP
    try dsimp only at hw
    subst hw
    refine W_cs (k := ([] : NN).length) (n := wt []) rfl rfl ?_
    have hD := hD9.weaken (fun _ q _ h => hf9 q.1 h)
    obtain ⟨y141, hy141, hF⟩ := bnd_some hF
    obtain ⟨w142, hF, ew142⟩ := app_some hF
    obtain ⟨L143, eL143, hF⟩ := ltt_some hF
    have hT143 : L11 = ([] ++ y141.1) ++ w142.1 := by rw [hT, ew142]; simp only [List.append_assoc]
    have hbl143 : L143.length ≤ y.1.length ∧ wt L143 ≤ wt y.1 := by rw [eL143]; exact room_d hT143 hbl
    have J141 : ∀ (ad144 : Nat → Nat), agr G.1 ad ad144 → ∀ (H : Heap) (locs : List Loc) (ls : Array Slot), va_P D classes (wld ct ad144 (xt G L143) y141.2) H → va_D A (wld ct ad144 (xt G L143) y141.2) → va_S A s.heap H locs → lv_has ls 8 [(4, .int x8), (3, .int x5), (2, .int x1), (0, .ref (ad144 a)), (1, .int p0)] → W p l e (headSpec wsX0_writeBlock ({ frames := 6, cells := y.1.length, slots := wt y.1, locals := 199 })).room s m ([.ref (ad a), .int p0] : List Value).toArray below meth c H locs (L143 : NN).length (wt L143) (MQ below (va_Qv (fun (u : Nat → Nat) => agr G.1 ad u) (fun u t => kE D ct u (xt G y.1) A y.2 t) A) ([.ref (ad a), .int p0] : List Value).toArray s y.1.length (wt y.1) A) (F0 m 126 ls []) := by
      intro ad144 hag H locs ls hP hD hS hl
      have hT : L11 = L143 ++ w142.1 := by rw [hT143, eL143]
      have h2 : y9.2 = w142.2 := by rw [h2, ew142]
      have hk : (xt G L143).2.1 a = 0 := by rw [eL143]; exact xt_k _ hc hk
      have hc : a < (xt G L143).1 := by rw [eL143]; exact xt_l _ hc
      have hk2 : (xt G L143).2.1 b2 = 9 := by rw [eL143]; exact xt_k _ hc2 hk2
      have hc2 : b2 < (xt G L143).1 := by rw [eL143]; exact xt_l _ hc2
      have hk3 : (xt G L143).2.1 b3 = 3 := by rw [eL143]; exact xt_k _ hc3 hk3
      have hc3 : b3 < (xt G L143).1 := by rw [eL143]; exact xt_l _ hc3
      have hk4 : (xt G L143).2.1 b4 = 13 := by rw [eL143]; exact xt_k _ hc4 hk4
      have hc4 : b4 < (xt G L143).1 := by rw [eL143]; exact xt_l _ hc4
      have hk7 : (xt G L143).2.1 b7 = 13 := by rw [eL143]; exact xt_k _ hc7 hk7
      have hc7 : b7 < (xt G L143).1 := by rw [eL143]; exact xt_l _ hc7
      obtain rfl := Option.some.inj hF
      have e1 : L11 = L143 := by rw [hT]; exact List.append_nil _
      have e2 : y9.2 = y141.2 := h2
      rw [e1] at J9
      try rw [e2] at J9
      exact J9 _ hag _ _ _ hP hD hS (lv_sub hl [0, 1, 2, 3, 4] rfl)
    clear hF
    obtain ⟨w145, hw145⟩ : ∃ z, z = y141 := ⟨_, rfl⟩
    have hF := hy141
    rw [← hw145] at hF
    clear hy141
    have hT : L143 = [] ++ w145.1 := by rw [eL143, hw145]
    have h2 : y141.2 = w145.2 := by rw [hw145]
    have hbl := hbl143
    refine lv_if_eq (tgt := 98) hx hb dX0_writeBlock_79 (by decide) (fun c146 => ?_) (fun c146 => ?_)
    · rw [if_pos c146] at hF
      refine lv_iload_n hx hb dX0_writeBlock_98 rfl (lv_at hl 1 rfl) ?_
      refine lv_iconst (v := (2 : Int32)) hx hb dX0_writeBlock_99 (by decide) ?_
      obtain ⟨y147, hy147, hF⟩ := bnd_some hF
      obtain ⟨w148, hF, ew148⟩ := app_some hF
      obtain ⟨L149, eL149, hF⟩ := ltt_some hF
      have hT149 : L143 = ([] ++ y147.1) ++ w148.1 := by rw [hT, ew148]; simp only [List.append_assoc]
      have hbl149 : L149.length ≤ y.1.length ∧ wt L149 ≤ wt y.1 := by rw [eL149]; exact room_d hT149 hbl
      have J147 : ∀ (ad150 : Nat → Nat), agr G.1 ad ad150 → ∀ (H : Heap) (locs : List Loc) (ls : Array Slot), va_P D classes (wld ct ad150 (xt G L149) y147.2) H → va_D A (wld ct ad150 (xt G L149) y147.2) → va_S A s.heap H locs → lv_has ls 8 [(4, .int x8), (3, .int x5), (2, .int x1), (0, .ref (ad150 a)), (1, .int p0)] → W p l e (headSpec wsX0_writeBlock ({ frames := 6, cells := y.1.length, slots := wt y.1, locals := 199 })).room s m ([.ref (ad a), .int p0] : List Value).toArray below meth c H locs (L149 : NN).length (wt L149) (MQ below (va_Qv (fun (u : Nat → Nat) => agr G.1 ad u) (fun u t => kE D ct u (xt G y.1) A y.2 t) A) ([.ref (ad a), .int p0] : List Value).toArray s y.1.length (wt y.1) A) (F0 m 126 ls []) := by
        intro ad150 hag H locs ls hP hD hS hl
        have hT : L143 = L149 ++ w148.1 := by rw [hT149, eL149]
        have h2 : y141.2 = w148.2 := by rw [h2, ew148]
        have hk : (xt G L149).2.1 a = 0 := by rw [eL149]; exact xt_k _ hc hk
        have hc : a < (xt G L149).1 := by rw [eL149]; exact xt_l _ hc
        have hk2 : (xt G L149).2.1 b2 = 9 := by rw [eL149]; exact xt_k _ hc2 hk2
        have hc2 : b2 < (xt G L149).1 := by rw [eL149]; exact xt_l _ hc2
        have hk3 : (xt G L149).2.1 b3 = 3 := by rw [eL149]; exact xt_k _ hc3 hk3
        have hc3 : b3 < (xt G L149).1 := by rw [eL149]; exact xt_l _ hc3
        have hk4 : (xt G L149).2.1 b4 = 13 := by rw [eL149]; exact xt_k _ hc4 hk4
        have hc4 : b4 < (xt G L149).1 := by rw [eL149]; exact xt_l _ hc4
        have hk7 : (xt G L149).2.1 b7 = 13 := by rw [eL149]; exact xt_k _ hc7 hk7
        have hc7 : b7 < (xt G L149).1 := by rw [eL149]; exact xt_l _ hc7
        obtain rfl := Option.some.inj hF
        have e1 : L143 = L149 := by rw [hT]; exact List.append_nil _
        have e2 : y141.2 = y147.2 := h2
        rw [e1] at J141
        try rw [e2] at J141
        exact J141 _ hag _ _ _ hP hD hS (lv_sub hl [0, 1, 2, 3, 4] rfl)
      clear hF
      obtain ⟨w151, hw151⟩ : ∃ z, z = y147 := ⟨_, rfl⟩
      have hF := hy147
      rw [← hw151] at hF
      clear hy147
      have hT : L149 = [] ++ w151.1 := by rw [eL149, hw151]
      have h2 : y147.2 = w151.2 := by rw [hw151]
      have hbl := hbl149
      refine lv_icmp_eq (tgt := 126) hx hb dX0_writeBlock_100 (by decide) (fun c152 => ?_) (fun c152 => ?_)
      · rw [if_pos c152] at hF
        obtain rfl := Option.some.inj hF
        have e1 : L149 = [] := by rw [hT]; exact List.append_nil _
        have e2 : y147.2 = y140.1 := h2
        rw [e1] at J147
        try rw [e2] at J147
        exact J147 _ hag _ _ _ hP hD hS (lv_sub hl [0, 1, 2, 3, 4] rfl)
      · rw [if_neg c152] at hF
        refine lv_aload_n hx hb dX0_writeBlock_103 rfl (lv_at hl 3 rfl) ?_
        refine va_get (D := D) (ci := 0) (v := va_re ad (y140.1.2 a 2)) (C := RX0) (T := TX0) (N := 21) hx hb hts (by decide +kernel) hown hK hP a (wld_o ct ad (xt G []) y140.1 hc hk (by decide)) rfl 2 (by decide) (hts (.fieldLink RX0 29 "VideoSuite$Coder" "writer" "LVideoSuite$Writer;") (by decide +kernel)) (fun _ h9 => h9) rfl dX0_writeBlock_104 ?_
        refine lv_iconst (v := (0 : Int32)) hx hb dX0_writeBlock_107 (by decide) ?_
        refine lv_aload_n hx hb dX0_writeBlock_108 rfl (lv_at hl 3 rfl) ?_
        refine va_get (D := D) (ci := 0) (v := va_re ad (y140.1.2 a 2)) (C := RX0) (T := TX0) (N := 21) hx hb hts (by decide +kernel) hown hK hP a (wld_o ct ad (xt G []) y140.1 hc hk (by decide)) rfl 2 (by decide) (hts (.fieldLink RX0 29 "VideoSuite$Coder" "writer" "LVideoSuite$Writer;") (by decide +kernel)) (fun _ h9 => h9) rfl dX0_writeBlock_109 ?_
        obtain ⟨b153, ho153, hc153, hk153, hF⟩ := dr_some hF
        refine W_st (st' := [.ref (ad b153), .int (0 : Int32), .ref (ad b153)]) (by rw [va_some ho153]) ?_
        refine va_get (D := D) (ci := 10) (v := .int (y140.1.1 b153 3)) (C := RX10) (T := TX10) (N := 20) hx hb hts (by decide +kernel) hown hK hP b153 (wld_o ct ad (xt G []) y140.1 hc153 hk153 (by decide)) rfl 3 (by decide) (hts (.fieldLink RX0 309 "VideoSuite$Writer" "run" "I") (by decide +kernel)) (fun _ h9 => h9) rfl dX0_writeBlock_112 ?_
        obtain ⟨x154, ex154, hF⟩ := ltt_some hF
        refine lv_topi (fun zx154 ezx154 => ?_)
        obtain rfl : x154 = zx154 := ex154.trans ezx154.symm
        obtain ⟨y155, hy155, hF⟩ := bnd_some hF
        obtain ⟨w156, hF, ew156⟩ := app_some hF
        obtain ⟨L157, eL157, hF⟩ := ltt_some hF
        have hT157 : L149 = ([] ++ y155.1) ++ w156.1 := by rw [hT, ew156]; simp only [List.append_assoc]
        have hf9 := wA_in hD hA9 hS
        refine va_callv (va_runV (As := [.int (0 : Int32), .int x154]) (rest := []) ⟨hx, hb, hml, hown, hts⟩ (kX10_ue l D ct ad Z (xt G []) y140.1 _ b153 ((0 : Int32)) x154 y155 hc153 hk153 hy155) (cwV 2 hts gX0_writeBlock_X10_ue rfl rfl rfl (by decide +kernel) ⟨Nat.le_of_ble_eq_true rfl, Nat.le_of_ble_eq_true rfl⟩) ⟨fun a U g mk q => by obtain ⟨q0, q1, qP, qK, qD, qZ, qN⟩ := q; exact ⟨q0, q1, qP, va_K.moved (u := U) (U := U.calling g mk a) (Vm.Alike.refl U.vm) qK, qD, sF.moved (u := U) (U := U.calling g mk a) (Vm.Alike.refl U.vm) qZ, nF.same rfl qN⟩, va_recv hK hP (ci := 10) (q0 := b153) rfl (wld_o ct ad (xt G []) y140.1 hc153 hk153 (by decide)), fun U hU hW => ⟨rfl, by rw [hU], by rw [hU]; exact hP, va_K.moved hW.alike hK, hD.weaken (fun _ _ _ _ => trivial), by rw [hU]; exact ((hZ.kept hS.2.1).narrow hf9).moved hW.alike, hN.warm hW⟩⟩ rfl rfl hl.1 rfl (lv_room (Nat.le_of_ble_eq_true rfl)) dX0_writeBlock_115 (room_s hT157 hbl)) hS (fun q _ h => hf9 q h) hf9 (fun ad158 t H locs ht hvm hw hB hz1 hk1 hS => ?_)
        have hn159 := hw
        obtain ⟨hP, hK9, hD9⟩ := hB
        rw [ht] at hP
        have hD := hD9.weaken (fun _ q _ h => hf9 q.1 h)
        rw [xt_xt, ← eL157] at hP hD
        refine W_cs (k := L157.length) (n := wt L157) (by rw [eL157]; exact (len_s [] y155.1).symm) (by rw [eL157]; exact (wt_app [] y155.1).symm) ?_
        have hT : L149 = L157 ++ w156.1 := by rw [hT157, eL157]
        have h2 : y147.2 = w156.2 := by rw [h2, ew156]
        have hl := lv_sub (l' := [(4, .int x8), (3, .int x5), (2, .int x1), (0, .ref (ad a)), (1, .int p0)]) hl [0, 1, 2, 3, 4] rfl
        have e9 : ([(4, .int x8), (3, .int x5), (2, .int x1), (0, .ref (ad a)), (1, .int p0)] : List (Nat × Value)) = [(4, .int x8), (3, .int x5), (2, .int x1), (0, .ref (ad158 a)), (1, .int p0)] := (by first | rfl | simp only [hn159 a hc])
        rw [e9] at hl
        clear e9
        have hk : (xt G L157).2.1 a = 0 := by rw [eL157]; exact xt_k _ hc hk
        have hc : a < (xt G L157).1 := by rw [eL157]; exact xt_l _ hc
        have hk2 : (xt G L157).2.1 b2 = 9 := by rw [eL157]; exact xt_k _ hc2 hk2
        have hc2 : b2 < (xt G L157).1 := by rw [eL157]; exact xt_l _ hc2
        have hk3 : (xt G L157).2.1 b3 = 3 := by rw [eL157]; exact xt_k _ hc3 hk3
        have hc3 : b3 < (xt G L157).1 := by rw [eL157]; exact xt_l _ hc3
        have hk4 : (xt G L157).2.1 b4 = 13 := by rw [eL157]; exact xt_k _ hc4 hk4
        have hc4 : b4 < (xt G L157).1 := by rw [eL157]; exact xt_l _ hc4
        have hk7 : (xt G L157).2.1 b7 = 13 := by rw [eL157]; exact xt_k _ hc7 hk7
        have hc7 : b7 < (xt G L157).1 := by rw [eL157]; exact xt_l _ hc7
        have hk153 : (xt G L157).2.1 b153 = 10 := by rw [eL157]; exact xt_k _ hc153 hk153
        have hc153 : b153 < (xt G L157).1 := by rw [eL157]; exact xt_l _ hc153
        have hag := agr_t (xt_ge _ _) hag hn159
        refine lv_aload_n hx hb dX0_writeBlock_118 rfl (lv_at hl 3 rfl) ?_
        refine va_get (D := D) (ci := 0) (v := va_re ad158 (y155.2.2 a 2)) (C := RX0) (T := TX0) (N := 21) hx hb hts (by decide +kernel) hown hK hP a (wld_o ct ad158 (xt G L157) y155.2 hc hk (by decide)) rfl 2 (by decide) (hts (.fieldLink RX0 29 "VideoSuite$Coder" "writer" "LVideoSuite$Writer;") (by decide +kernel)) (fun _ h9 => h9) rfl dX0_writeBlock_119 ?_
        refine lv_iconst (v := (0 : Int32)) hx hb dX0_writeBlock_122 (by decide) ?_
        obtain ⟨b160, ho160, hc160, hk160, hF⟩ := dr_some hF
        refine W_st (st' := [.int (0 : Int32), .ref (ad158 b160)]) (by rw [va_some ho160]) ?_
        refine va_put (D := D) (ci := 10) (v := .int (0 : Int32)) (ty := .int) (C := RX10) (T := TX10) (N := 20) hx hb hts (by decide +kernel) tyX10 tyX10_ok nmX10 hown hK hP hD hS b160 (wld_o ct ad158 (xt G L157) y155.2 hc160 hk160 (by decide)) rfl 3 (by decide) (hts (.fieldLink RX0 309 "VideoSuite$Writer" "run" "I") (by decide +kernel)) (fun _ h9 => h9) rfl (by decide +kernel) rfl rfl (Nat.le_of_ble_eq_true rfl) dX0_writeBlock_123 (fun H locs hP hD hS => ?_)
        obtain ⟨M161, eM161, hF⟩ := ltt_some hF
        rw [set_oI ct ad158 (xt G L157) y155.2 hc160 hk160 (by decide) (by rfl), ← eM161] at hP hD
        obtain rfl := Option.some.inj hF
        have e1 : L149 = L157 := by rw [hT]; exact List.append_nil _
        have e2 : y147.2 = M161 := h2
        rw [e1] at J147
        try rw [e2] at J147
        exact J147 _ hag _ _ _ hP hD hS (lv_sub hl [0, 1, 2, 3, 4] rfl)
    · rw [if_neg c146] at hF
      refine lv_aload_n hx hb dX0_writeBlock_82 rfl (lv_at hl 3 rfl) ?_
      refine va_get (D := D) (ci := 0) (v := va_re ad (y140.1.2 a 2)) (C := RX0) (T := TX0) (N := 21) hx hb hts (by decide +kernel) hown hK hP a (wld_o ct ad (xt G []) y140.1 hc hk (by decide)) rfl 2 (by decide) (hts (.fieldLink RX0 29 "VideoSuite$Coder" "writer" "LVideoSuite$Writer;") (by decide +kernel)) (fun _ h9 => h9) rfl dX0_writeBlock_83 ?_
      refine lv_dup hx hb dX0_writeBlock_86 (va_re_cat _ _) ?_
      obtain ⟨b162, ho162, hc162, hk162, hF⟩ := dr_some hF
      refine W_st (st' := [.ref (ad b162), .ref (ad b162)]) (by rw [va_some ho162]) ?_
      refine va_get (D := D) (ci := 10) (v := .int (y140.1.1 b162 3)) (C := RX10) (T := TX10) (N := 20) hx hb hts (by decide +kernel) hown hK hP b162 (wld_o ct ad (xt G []) y140.1 hc162 hk162 (by decide)) rfl 3 (by decide) (hts (.fieldLink RX0 309 "VideoSuite$Writer" "run" "I") (by decide +kernel)) (fun _ h9 => h9) rfl dX0_writeBlock_87 ?_
      obtain ⟨x163, ex163, hF⟩ := ltt_some hF
      refine lv_topi (fun zx163 ezx163 => ?_)
      obtain rfl : x163 = zx163 := ex163.trans ezx163.symm
      refine lv_iconst (v := (1 : Int32)) hx hb dX0_writeBlock_90 (by decide) ?_
      refine lv_iadd hx hb dX0_writeBlock_91 ?_
      obtain ⟨x164, ex164, hF⟩ := ltt_some hF
      refine lv_topi (fun zx164 ezx164 => ?_)
      obtain rfl : x164 = zx164 := ex164.trans ezx164.symm
      refine va_put (D := D) (ci := 10) (v := .int x164) (ty := .int) (C := RX10) (T := TX10) (N := 20) hx hb hts (by decide +kernel) tyX10 tyX10_ok nmX10 hown hK hP hD hS b162 (wld_o ct ad (xt G []) y140.1 hc162 hk162 (by decide)) rfl 3 (by decide) (hts (.fieldLink RX0 309 "VideoSuite$Writer" "run" "I") (by decide +kernel)) (fun _ h9 => h9) rfl (by decide +kernel) rfl rfl (Nat.le_of_ble_eq_true rfl) dX0_writeBlock_92 (fun H locs hP hD hS => ?_)
      obtain ⟨M165, eM165, hF⟩ := ltt_some hF
      rw [set_oI ct ad (xt G []) y140.1 hc162 hk162 (by decide) (by rfl), ← eM165] at hP hD
      refine lv_goto (tgt := 126) hx hb dX0_writeBlock_95 (by decide) ?_
      obtain rfl := Option.some.inj hF
      have e1 : L143 = [] := by rw [hT]; exact List.append_nil _
      have e2 : y141.2 = M165 := h2
      rw [e1] at J141
      try rw [e2] at J141
      exact J141 _ hag _ _ _ hP hD hS (lv_sub hl [0, 1, 2, 3, 4] rfl)
  · rw [if_neg c139] at hF
    refine lv_aload_n hx hb dX0_writeBlock_36 rfl (lv_at hl 3 rfl) ?_
    refine va_get (D := D) (ci := 0) (v := va_re ad (M.2 a 3)) (C := RX0) (T := TX0) (N := 21) hx hb hts (by decide +kernel) hown hK hP a (wld_o ct ad (xt G []) M hc hk (by decide)) rfl 3 (by decide) (hts (.fieldLink RX0 36 "VideoSuite$Coder" "work" "LVideoSuite$Work;") (by decide +kernel)) (fun _ h9 => h9) rfl dX0_writeBlock_37 ?_
    refine W_st (st' := [.ref (ad b2)]) (by rw [va_some ho2]) ?_
    refine va_get (D := D) (ci := 9) (v := va_re ad (M.2 b2 2)) (C := RX9) (T := TX9) (N := 20) hx hb hts (by decide +kernel) hown hK hP b2 (wld_o ct ad (xt G []) M hc2 hk2 (by decide)) rfl 2 (by decide) (hts (.fieldLink RX0 85 "VideoSuite$Work" "par" "[I") (by decide +kernel)) (fun _ h9 => h9) rfl dX0_writeBlock_40 ?_
    refine lv_iconst (v := (1 : Int32)) hx hb dX0_writeBlock_43 (by decide) ?_
    obtain ⟨b166, ho166, hc166, hk166, hF⟩ := dr_some hF
    refine W_st (st' := [.int (1 : Int32), .ref (ad b166)]) (by rw [va_some ho166]) ?_
    obtain ⟨hvc, hF⟩ := chk_some hF
    refine va_iald hx hb hK hP b166 1 (wld_i ct ad (xt G []) M hc166 hk166) rfl hvc dX0_writeBlock_44 ?_
    obtain ⟨x167, ex167, hF⟩ := ltt_some hF
    refine lv_topi (fun zx167 ezx167 => ?_)
    obtain rfl : x167 = zx167 := ex167.trans ezx167.symm
    refine lv_iconst (v := (1 : Int32)) hx hb dX0_writeBlock_45 (by decide) ?_
    obtain ⟨y168, hy168, hF⟩ := bnd_some hF
    obtain ⟨w169, hF, ew169⟩ := app_some hF
    obtain ⟨L170, eL170, hF⟩ := ltt_some hF
    have hT170 : L11 = ([] ++ y168.1) ++ w169.1 := by rw [hT, ew169]; simp only [List.append_assoc]
    have hbl170 : L170.length ≤ y.1.length ∧ wt L170 ≤ wt y.1 := by rw [eL170]; exact room_d hT170 hbl
    have J168 : ∀ (ad171 : Nat → Nat), agr G.1 ad ad171 → ∀ (H : Heap) (locs : List Loc) (ls : Array Slot), va_P D classes (wld ct ad171 (xt G L170) y168.2) H → va_D A (wld ct ad171 (xt G L170) y168.2) → va_S A s.heap H locs → lv_has ls 8 [(4, .int x8), (3, .int x5), (2, .int x1), (0, .ref (ad171 a)), (1, .int p0)] → W p l e (headSpec wsX0_writeBlock ({ frames := 6, cells := y.1.length, slots := wt y.1, locals := 199 })).room s m ([.ref (ad a), .int p0] : List Value).toArray below meth c H locs (L170 : NN).length (wt L170) (MQ below (va_Qv (fun (u : Nat → Nat) => agr G.1 ad u) (fun u t => kE D ct u (xt G y.1) A y.2 t) A) ([.ref (ad a), .int p0] : List Value).toArray s y.1.length (wt y.1) A) (F0 m 126 ls []) := by
      intro ad171 hag H locs ls hP hD hS hl
      have hT : L11 = L170 ++ w169.1 := by rw [hT170, eL170]
      have h2 : y9.2 = w169.2 := by rw [h2, ew169]
      have hk : (xt G L170).2.1 a = 0 := by rw [eL170]; exact xt_k _ hc hk
      have hc : a < (xt G L170).1 := by rw [eL170]; exact xt_l _ hc
      have hk2 : (xt G L170).2.1 b2 = 9 := by rw [eL170]; exact xt_k _ hc2 hk2
      have hc2 : b2 < (xt G L170).1 := by rw [eL170]; exact xt_l _ hc2
      have hk3 : (xt G L170).2.1 b3 = 3 := by rw [eL170]; exact xt_k _ hc3 hk3
      have hc3 : b3 < (xt G L170).1 := by rw [eL170]; exact xt_l _ hc3
      have hk4 : (xt G L170).2.1 b4 = 13 := by rw [eL170]; exact xt_k _ hc4 hk4
      have hc4 : b4 < (xt G L170).1 := by rw [eL170]; exact xt_l _ hc4
      have hk7 : (xt G L170).2.1 b7 = 13 := by rw [eL170]; exact xt_k _ hc7 hk7
      have hc7 : b7 < (xt G L170).1 := by rw [eL170]; exact xt_l _ hc7
      have hk166 : (xt G L170).2.1 b166 = 13 := by rw [eL170]; exact xt_k _ hc166 hk166
      have hc166 : b166 < (xt G L170).1 := by rw [eL170]; exact xt_l _ hc166
      obtain rfl := Option.some.inj hF
      have e1 : L11 = L170 := by rw [hT]; exact List.append_nil _
      have e2 : y9.2 = y168.2 := h2
      rw [e1] at J9
      try rw [e2] at J9
      exact J9 _ hag _ _ _ hP hD hS (lv_sub hl [0, 1, 2, 3, 4] rfl)
    clear hF
    obtain ⟨w172, hw172⟩ : ∃ z, z = y168 := ⟨_, rfl⟩
    have hF := hy168
    rw [← hw172] at hF
    clear hy168
    have hT : L170 = [] ++ w172.1 := by rw [eL170, hw172]
    have h2 : y168.2 = w172.2 := by rw [hw172]
    have hbl := hbl170
    refine lv_icmp_ne (tgt := 74) hx hb dX0_writeBlock_46 (by decide) (fun c173 => ?_) (fun c173 => ?_)
    · rw [if_neg c173] at hF
      refine lv_aload_n hx hb dX0_writeBlock_74 rfl (lv_at hl 3 rfl) ?_
      refine lv_iload_n hx hb dX0_writeBlock_75 rfl (lv_at hl 4 rfl) ?_
      obtain ⟨y174, hy174, hF⟩ := bnd_some hF
      have hf9 := wA_in hD hA9 hS
      refine va_calli (va_runV (As := [.int p0]) (rest := []) ⟨hx, hb, hml, hown, hts⟩ (kX0_isSkipped l D ct ad Z (xt G []) M s.heap.size a p0 y174 hc hk hy174) (cwV 1 hts gX0_writeBlock_X0_isSkipped rfl rfl rfl (by decide +kernel) ⟨Nat.le_of_ble_eq_true rfl, Nat.le_of_ble_eq_true rfl⟩) ⟨fun a U g mk q => by obtain ⟨q0, q1, qP, qK, qD, qZ, qN⟩ := q; exact ⟨q0, q1, qP, va_K.moved (u := U) (U := U.calling g mk a) (Vm.Alike.refl U.vm) qK, qD, sF.moved (u := U) (U := U.calling g mk a) (Vm.Alike.refl U.vm) qZ, nF.same rfl qN⟩, va_recv hK hP (ci := 0) (q0 := a) rfl (wld_o ct ad (xt G []) M hc hk (by decide)), fun U hU hW => ⟨rfl, by rw [hU], by rw [hU]; exact hP, va_K.moved hW.alike hK, hD.weaken (fun _ _ _ _ => trivial), by rw [hU]; exact ((hZ.kept hS.2.1).narrow hf9).moved hW.alike, hN.warm hW⟩⟩ rfl rfl hl.1 rfl (lv_room (Nat.le_of_ble_eq_true rfl)) dX0_writeBlock_76 (room_d hT hbl)) hS (fun q _ h => hf9 q h) hf9 (fun r u t H locs ht hvm hw hB hz1 hk1 hS => ?_)
      obtain ⟨hP, hK9, hD9⟩ := hB
      rw [ht] at hP
      try dsimp only at hw
      subst hw
      refine W_cs (k := ([] : NN).length) (n := wt []) rfl rfl ?_
      have hD := hD9.weaken (fun _ q _ h => hf9 q.1 h)
      obtain ⟨y175, hy175, hF⟩ := bnd_some hF
      obtain ⟨w176, hF, ew176⟩ := app_some hF
      obtain ⟨L177, eL177, hF⟩ := ltt_some hF
      have hT177 : L170 = ([] ++ y175.1) ++ w176.1 := by rw [hT, ew176]; simp only [List.append_assoc]
      have hbl177 : L177.length ≤ y.1.length ∧ wt L177 ≤ wt y.1 := by rw [eL177]; exact room_d hT177 hbl
      have J175 : ∀ (ad178 : Nat → Nat), agr G.1 ad ad178 → ∀ (H : Heap) (locs : List Loc) (ls : Array Slot), va_P D classes (wld ct ad178 (xt G L177) y175.2) H → va_D A (wld ct ad178 (xt G L177) y175.2) → va_S A s.heap H locs → lv_has ls 8 [(4, .int x8), (3, .int x5), (2, .int x1), (0, .ref (ad178 a)), (1, .int p0)] → W p l e (headSpec wsX0_writeBlock ({ frames := 6, cells := y.1.length, slots := wt y.1, locals := 199 })).room s m ([.ref (ad a), .int p0] : List Value).toArray below meth c H locs (L177 : NN).length (wt L177) (MQ below (va_Qv (fun (u : Nat → Nat) => agr G.1 ad u) (fun u t => kE D ct u (xt G y.1) A y.2 t) A) ([.ref (ad a), .int p0] : List Value).toArray s y.1.length (wt y.1) A) (F0 m 126 ls []) := by
        intro ad178 hag H locs ls hP hD hS hl
        have hT : L170 = L177 ++ w176.1 := by rw [hT177, eL177]
        have h2 : y168.2 = w176.2 := by rw [h2, ew176]
        have hk : (xt G L177).2.1 a = 0 := by rw [eL177]; exact xt_k _ hc hk
        have hc : a < (xt G L177).1 := by rw [eL177]; exact xt_l _ hc
        have hk2 : (xt G L177).2.1 b2 = 9 := by rw [eL177]; exact xt_k _ hc2 hk2
        have hc2 : b2 < (xt G L177).1 := by rw [eL177]; exact xt_l _ hc2
        have hk3 : (xt G L177).2.1 b3 = 3 := by rw [eL177]; exact xt_k _ hc3 hk3
        have hc3 : b3 < (xt G L177).1 := by rw [eL177]; exact xt_l _ hc3
        have hk4 : (xt G L177).2.1 b4 = 13 := by rw [eL177]; exact xt_k _ hc4 hk4
        have hc4 : b4 < (xt G L177).1 := by rw [eL177]; exact xt_l _ hc4
        have hk7 : (xt G L177).2.1 b7 = 13 := by rw [eL177]; exact xt_k _ hc7 hk7
        have hc7 : b7 < (xt G L177).1 := by rw [eL177]; exact xt_l _ hc7
        have hk166 : (xt G L177).2.1 b166 = 13 := by rw [eL177]; exact xt_k _ hc166 hk166
        have hc166 : b166 < (xt G L177).1 := by rw [eL177]; exact xt_l _ hc166
        obtain rfl := Option.some.inj hF
        have e1 : L170 = L177 := by rw [hT]; exact List.append_nil _
        have e2 : y168.2 = y175.2 := h2
        rw [e1] at J168
        try rw [e2] at J168
        exact J168 _ hag _ _ _ hP hD hS (lv_sub hl [0, 1, 2, 3, 4] rfl)
      clear hF
      obtain ⟨w179, hw179⟩ : ∃ z, z = y175 := ⟨_, rfl⟩
      have hF := hy175
      rw [← hw179] at hF
      clear hy175
      have hT : L177 = [] ++ w179.1 := by rw [eL177, hw179]
      have h2 : y175.2 = w179.2 := by rw [hw179]
      have hbl := hbl177
      refine lv_if_eq (tgt := 98) hx hb dX0_writeBlock_79 (by decide) (fun c180 => ?_) (fun c180 => ?_)
      · rw [if_pos c180] at hF
        refine lv_iload_n hx hb dX0_writeBlock_98 rfl (lv_at hl 1 rfl) ?_
        refine lv_iconst (v := (2 : Int32)) hx hb dX0_writeBlock_99 (by decide) ?_
        obtain ⟨y181, hy181, hF⟩ := bnd_some hF
        obtain ⟨w182, hF, ew182⟩ := app_some hF
        obtain ⟨L183, eL183, hF⟩ := ltt_some hF
        have hT183 : L177 = ([] ++ y181.1) ++ w182.1 := by rw [hT, ew182]; simp only [List.append_assoc]
        have hbl183 : L183.length ≤ y.1.length ∧ wt L183 ≤ wt y.1 := by rw [eL183]; exact room_d hT183 hbl
        have J181 : ∀ (ad184 : Nat → Nat), agr G.1 ad ad184 → ∀ (H : Heap) (locs : List Loc) (ls : Array Slot), va_P D classes (wld ct ad184 (xt G L183) y181.2) H → va_D A (wld ct ad184 (xt G L183) y181.2) → va_S A s.heap H locs → lv_has ls 8 [(4, .int x8), (3, .int x5), (2, .int x1), (0, .ref (ad184 a)), (1, .int p0)] → W p l e (headSpec wsX0_writeBlock ({ frames := 6, cells := y.1.length, slots := wt y.1, locals := 199 })).room s m ([.ref (ad a), .int p0] : List Value).toArray below meth c H locs (L183 : NN).length (wt L183) (MQ below (va_Qv (fun (u : Nat → Nat) => agr G.1 ad u) (fun u t => kE D ct u (xt G y.1) A y.2 t) A) ([.ref (ad a), .int p0] : List Value).toArray s y.1.length (wt y.1) A) (F0 m 126 ls []) := by
          intro ad184 hag H locs ls hP hD hS hl
          have hT : L177 = L183 ++ w182.1 := by rw [hT183, eL183]
          have h2 : y175.2 = w182.2 := by rw [h2, ew182]
          have hk : (xt G L183).2.1 a = 0 := by rw [eL183]; exact xt_k _ hc hk
          have hc : a < (xt G L183).1 := by rw [eL183]; exact xt_l _ hc
          have hk2 : (xt G L183).2.1 b2 = 9 := by rw [eL183]; exact xt_k _ hc2 hk2
          have hc2 : b2 < (xt G L183).1 := by rw [eL183]; exact xt_l _ hc2
          have hk3 : (xt G L183).2.1 b3 = 3 := by rw [eL183]; exact xt_k _ hc3 hk3
          have hc3 : b3 < (xt G L183).1 := by rw [eL183]; exact xt_l _ hc3
          have hk4 : (xt G L183).2.1 b4 = 13 := by rw [eL183]; exact xt_k _ hc4 hk4
          have hc4 : b4 < (xt G L183).1 := by rw [eL183]; exact xt_l _ hc4
          have hk7 : (xt G L183).2.1 b7 = 13 := by rw [eL183]; exact xt_k _ hc7 hk7
          have hc7 : b7 < (xt G L183).1 := by rw [eL183]; exact xt_l _ hc7
          have hk166 : (xt G L183).2.1 b166 = 13 := by rw [eL183]; exact xt_k _ hc166 hk166
          have hc166 : b166 < (xt G L183).1 := by rw [eL183]; exact xt_l _ hc166
          obtain rfl := Option.some.inj hF
          have e1 : L177 = L183 := by rw [hT]; exact List.append_nil _
          have e2 : y175.2 = y181.2 := h2
          rw [e1] at J175
          try rw [e2] at J175
          exact J175 _ hag _ _ _ hP hD hS (lv_sub hl [0, 1, 2, 3, 4] rfl)
        clear hF
        obtain ⟨w185, hw185⟩ : ∃ z, z = y181 := ⟨_, rfl⟩
        have hF := hy181
        rw [← hw185] at hF
        clear hy181
        have hT : L183 = [] ++ w185.1 := by rw [eL183, hw185]
        have h2 : y181.2 = w185.2 := by rw [hw185]
        have hbl := hbl183
        refine lv_icmp_eq (tgt := 126) hx hb dX0_writeBlock_100 (by decide) (fun c186 => ?_) (fun c186 => ?_)
        · rw [if_pos c186] at hF
          obtain rfl := Option.some.inj hF
          have e1 : L183 = [] := by rw [hT]; exact List.append_nil _
          have e2 : y181.2 = y174.1 := h2
          rw [e1] at J181
          try rw [e2] at J181
          exact J181 _ hag _ _ _ hP hD hS (lv_sub hl [0, 1, 2, 3, 4] rfl)
        · rw [if_neg c186] at hF
          refine lv_aload_n hx hb dX0_writeBlock_103 rfl (lv_at hl 3 rfl) ?_
          refine va_get (D := D) (ci := 0) (v := va_re ad (y174.1.2 a 2)) (C := RX0) (T := TX0) (N := 21) hx hb hts (by decide +kernel) hown hK hP a (wld_o ct ad (xt G []) y174.1 hc hk (by decide)) rfl 2 (by decide) (hts (.fieldLink RX0 29 "VideoSuite$Coder" "writer" "LVideoSuite$Writer;") (by decide +kernel)) (fun _ h9 => h9) rfl dX0_writeBlock_104 ?_
          refine lv_iconst (v := (0 : Int32)) hx hb dX0_writeBlock_107 (by decide) ?_
          refine lv_aload_n hx hb dX0_writeBlock_108 rfl (lv_at hl 3 rfl) ?_
          refine va_get (D := D) (ci := 0) (v := va_re ad (y174.1.2 a 2)) (C := RX0) (T := TX0) (N := 21) hx hb hts (by decide +kernel) hown hK hP a (wld_o ct ad (xt G []) y174.1 hc hk (by decide)) rfl 2 (by decide) (hts (.fieldLink RX0 29 "VideoSuite$Coder" "writer" "LVideoSuite$Writer;") (by decide +kernel)) (fun _ h9 => h9) rfl dX0_writeBlock_109 ?_
          obtain ⟨b187, ho187, hc187, hk187, hF⟩ := dr_some hF
          refine W_st (st' := [.ref (ad b187), .int (0 : Int32), .ref (ad b187)]) (by rw [va_some ho187]) ?_
          refine va_get (D := D) (ci := 10) (v := .int (y174.1.1 b187 3)) (C := RX10) (T := TX10) (N := 20) hx hb hts (by decide +kernel) hown hK hP b187 (wld_o ct ad (xt G []) y174.1 hc187 hk187 (by decide)) rfl 3 (by decide) (hts (.fieldLink RX0 309 "VideoSuite$Writer" "run" "I") (by decide +kernel)) (fun _ h9 => h9) rfl dX0_writeBlock_112 ?_
          obtain ⟨x188, ex188, hF⟩ := ltt_some hF
          refine lv_topi (fun zx188 ezx188 => ?_)
          obtain rfl : x188 = zx188 := ex188.trans ezx188.symm
          obtain ⟨y189, hy189, hF⟩ := bnd_some hF
          obtain ⟨w190, hF, ew190⟩ := app_some hF
          obtain ⟨L191, eL191, hF⟩ := ltt_some hF
          have hT191 : L183 = ([] ++ y189.1) ++ w190.1 := by rw [hT, ew190]; simp only [List.append_assoc]
          have hf9 := wA_in hD hA9 hS
          refine va_callv (va_runV (As := [.int (0 : Int32), .int x188]) (rest := []) ⟨hx, hb, hml, hown, hts⟩ (kX10_ue l D ct ad Z (xt G []) y174.1 _ b187 ((0 : Int32)) x188 y189 hc187 hk187 hy189) (cwV 2 hts gX0_writeBlock_X10_ue rfl rfl rfl (by decide +kernel) ⟨Nat.le_of_ble_eq_true rfl, Nat.le_of_ble_eq_true rfl⟩) ⟨fun a U g mk q => by obtain ⟨q0, q1, qP, qK, qD, qZ, qN⟩ := q; exact ⟨q0, q1, qP, va_K.moved (u := U) (U := U.calling g mk a) (Vm.Alike.refl U.vm) qK, qD, sF.moved (u := U) (U := U.calling g mk a) (Vm.Alike.refl U.vm) qZ, nF.same rfl qN⟩, va_recv hK hP (ci := 10) (q0 := b187) rfl (wld_o ct ad (xt G []) y174.1 hc187 hk187 (by decide)), fun U hU hW => ⟨rfl, by rw [hU], by rw [hU]; exact hP, va_K.moved hW.alike hK, hD.weaken (fun _ _ _ _ => trivial), by rw [hU]; exact ((hZ.kept hS.2.1).narrow hf9).moved hW.alike, hN.warm hW⟩⟩ rfl rfl hl.1 rfl (lv_room (Nat.le_of_ble_eq_true rfl)) dX0_writeBlock_115 (room_s hT191 hbl)) hS (fun q _ h => hf9 q h) hf9 (fun ad192 t H locs ht hvm hw hB hz1 hk1 hS => ?_)
          have hn193 := hw
          obtain ⟨hP, hK9, hD9⟩ := hB
          rw [ht] at hP
          have hD := hD9.weaken (fun _ q _ h => hf9 q.1 h)
          rw [xt_xt, ← eL191] at hP hD
          refine W_cs (k := L191.length) (n := wt L191) (by rw [eL191]; exact (len_s [] y189.1).symm) (by rw [eL191]; exact (wt_app [] y189.1).symm) ?_
          have hT : L183 = L191 ++ w190.1 := by rw [hT191, eL191]
          have h2 : y181.2 = w190.2 := by rw [h2, ew190]
          have hl := lv_sub (l' := [(4, .int x8), (3, .int x5), (2, .int x1), (0, .ref (ad a)), (1, .int p0)]) hl [0, 1, 2, 3, 4] rfl
          have e9 : ([(4, .int x8), (3, .int x5), (2, .int x1), (0, .ref (ad a)), (1, .int p0)] : List (Nat × Value)) = [(4, .int x8), (3, .int x5), (2, .int x1), (0, .ref (ad192 a)), (1, .int p0)] := (by first | rfl | simp only [hn193 a hc])
          rw [e9] at hl
          clear e9
          have hk : (xt G L191).2.1 a = 0 := by rw [eL191]; exact xt_k _ hc hk
          have hc : a < (xt G L191).1 := by rw [eL191]; exact xt_l _ hc
          have hk2 : (xt G L191).2.1 b2 = 9 := by rw [eL191]; exact xt_k _ hc2 hk2
          have hc2 : b2 < (xt G L191).1 := by rw [eL191]; exact xt_l _ hc2
          have hk3 : (xt G L191).2.1 b3 = 3 := by rw [eL191]; exact xt_k _ hc3 hk3
          have hc3 : b3 < (xt G L191).1 := by rw [eL191]; exact xt_l _ hc3
          have hk4 : (xt G L191).2.1 b4 = 13 := by rw [eL191]; exact xt_k _ hc4 hk4
          have hc4 : b4 < (xt G L191).1 := by rw [eL191]; exact xt_l _ hc4
          have hk7 : (xt G L191).2.1 b7 = 13 := by rw [eL191]; exact xt_k _ hc7 hk7
          have hc7 : b7 < (xt G L191).1 := by rw [eL191]; exact xt_l _ hc7
          have hk166 : (xt G L191).2.1 b166 = 13 := by rw [eL191]; exact xt_k _ hc166 hk166
          have hc166 : b166 < (xt G L191).1 := by rw [eL191]; exact xt_l _ hc166
          have hk187 : (xt G L191).2.1 b187 = 10 := by rw [eL191]; exact xt_k _ hc187 hk187
          have hc187 : b187 < (xt G L191).1 := by rw [eL191]; exact xt_l _ hc187
          have hag := agr_t (xt_ge _ _) hag hn193
          refine lv_aload_n hx hb dX0_writeBlock_118 rfl (lv_at hl 3 rfl) ?_
          refine va_get (D := D) (ci := 0) (v := va_re ad192 (y189.2.2 a 2)) (C := RX0) (T := TX0) (N := 21) hx hb hts (by decide +kernel) hown hK hP a (wld_o ct ad192 (xt G L191) y189.2 hc hk (by decide)) rfl 2 (by decide) (hts (.fieldLink RX0 29 "VideoSuite$Coder" "writer" "LVideoSuite$Writer;") (by decide +kernel)) (fun _ h9 => h9) rfl dX0_writeBlock_119 ?_
          refine lv_iconst (v := (0 : Int32)) hx hb dX0_writeBlock_122 (by decide) ?_
          obtain ⟨b194, ho194, hc194, hk194, hF⟩ := dr_some hF
          refine W_st (st' := [.int (0 : Int32), .ref (ad192 b194)]) (by rw [va_some ho194]) ?_
          refine va_put (D := D) (ci := 10) (v := .int (0 : Int32)) (ty := .int) (C := RX10) (T := TX10) (N := 20) hx hb hts (by decide +kernel) tyX10 tyX10_ok nmX10 hown hK hP hD hS b194 (wld_o ct ad192 (xt G L191) y189.2 hc194 hk194 (by decide)) rfl 3 (by decide) (hts (.fieldLink RX0 309 "VideoSuite$Writer" "run" "I") (by decide +kernel)) (fun _ h9 => h9) rfl (by decide +kernel) rfl rfl (Nat.le_of_ble_eq_true rfl) dX0_writeBlock_123 (fun H locs hP hD hS => ?_)
          obtain ⟨M195, eM195, hF⟩ := ltt_some hF
          rw [set_oI ct ad192 (xt G L191) y189.2 hc194 hk194 (by decide) (by rfl), ← eM195] at hP hD
          obtain rfl := Option.some.inj hF
          have e1 : L183 = L191 := by rw [hT]; exact List.append_nil _
          have e2 : y181.2 = M195 := h2
          rw [e1] at J181
          try rw [e2] at J181
          exact J181 _ hag _ _ _ hP hD hS (lv_sub hl [0, 1, 2, 3, 4] rfl)
      · rw [if_neg c180] at hF
        refine lv_aload_n hx hb dX0_writeBlock_82 rfl (lv_at hl 3 rfl) ?_
        refine va_get (D := D) (ci := 0) (v := va_re ad (y174.1.2 a 2)) (C := RX0) (T := TX0) (N := 21) hx hb hts (by decide +kernel) hown hK hP a (wld_o ct ad (xt G []) y174.1 hc hk (by decide)) rfl 2 (by decide) (hts (.fieldLink RX0 29 "VideoSuite$Coder" "writer" "LVideoSuite$Writer;") (by decide +kernel)) (fun _ h9 => h9) rfl dX0_writeBlock_83 ?_
        refine lv_dup hx hb dX0_writeBlock_86 (va_re_cat _ _) ?_
        obtain ⟨b196, ho196, hc196, hk196, hF⟩ := dr_some hF
        refine W_st (st' := [.ref (ad b196), .ref (ad b196)]) (by rw [va_some ho196]) ?_
        refine va_get (D := D) (ci := 10) (v := .int (y174.1.1 b196 3)) (C := RX10) (T := TX10) (N := 20) hx hb hts (by decide +kernel) hown hK hP b196 (wld_o ct ad (xt G []) y174.1 hc196 hk196 (by decide)) rfl 3 (by decide) (hts (.fieldLink RX0 309 "VideoSuite$Writer" "run" "I") (by decide +kernel)) (fun _ h9 => h9) rfl dX0_writeBlock_87 ?_
        obtain ⟨x197, ex197, hF⟩ := ltt_some hF
        refine lv_topi (fun zx197 ezx197 => ?_)
        obtain rfl : x197 = zx197 := ex197.trans ezx197.symm
        refine lv_iconst (v := (1 : Int32)) hx hb dX0_writeBlock_90 (by decide) ?_
        refine lv_iadd hx hb dX0_writeBlock_91 ?_
        obtain ⟨x198, ex198, hF⟩ := ltt_some hF
        refine lv_topi (fun zx198 ezx198 => ?_)
        obtain rfl : x198 = zx198 := ex198.trans ezx198.symm
        refine va_put (D := D) (ci := 10) (v := .int x198) (ty := .int) (C := RX10) (T := TX10) (N := 20) hx hb hts (by decide +kernel) tyX10 tyX10_ok nmX10 hown hK hP hD hS b196 (wld_o ct ad (xt G []) y174.1 hc196 hk196 (by decide)) rfl 3 (by decide) (hts (.fieldLink RX0 309 "VideoSuite$Writer" "run" "I") (by decide +kernel)) (fun _ h9 => h9) rfl (by decide +kernel) rfl rfl (Nat.le_of_ble_eq_true rfl) dX0_writeBlock_92 (fun H locs hP hD hS => ?_)
        obtain ⟨M199, eM199, hF⟩ := ltt_some hF
        rw [set_oI ct ad (xt G []) y174.1 hc196 hk196 (by decide) (by rfl), ← eM199] at hP hD
        refine lv_goto (tgt := 126) hx hb dX0_writeBlock_95 (by decide) ?_
        obtain rfl := Option.some.inj hF
        have e1 : L177 = [] := by rw [hT]; exact List.append_nil _
        have e2 : y175.2 = M199 := h2
        rw [e1] at J175
        try rw [e2] at J175
        exact J175 _ hag _ _ _ hP hD hS (lv_sub hl [0, 1, 2, 3, 4] rfl)
    · rw [if_pos c173] at hF
      refine lv_aload_n hx hb dX0_writeBlock_49 rfl (lv_at hl 3 rfl) ?_
      refine va_get (D := D) (ci := 0) (v := va_re ad (M.2 a 2)) (C := RX0) (T := TX0) (N := 21) hx hb hts (by decide +kernel) hown hK hP a (wld_o ct ad (xt G []) M hc hk (by decide)) rfl 2 (by decide) (hts (.fieldLink RX0 29 "VideoSuite$Coder" "writer" "LVideoSuite$Writer;") (by decide +kernel)) (fun _ h9 => h9) rfl dX0_writeBlock_50 ?_
      refine lv_iconst (v := (0 : Int32)) hx hb dX0_writeBlock_53 (by decide) ?_
      refine lv_aload_n hx hb dX0_writeBlock_54 rfl (lv_at hl 3 rfl) ?_
      refine lv_iload_n hx hb dX0_writeBlock_55 rfl (lv_at hl 4 rfl) ?_
      obtain ⟨y200, hy200, hF⟩ := bnd_some hF
      have hf9 := wA_in hD hA9 hS
      refine va_calli (va_runV (As := [.int p0]) (rest := [.int (0 : Int32), va_re ad (M.2 a 2)]) ⟨hx, hb, hml, hown, hts⟩ (kX0_isSkipped l D ct ad Z (xt G []) M s.heap.size a p0 y200 hc hk hy200) (cwV 1 hts gX0_writeBlock_X0_isSkipped rfl rfl rfl (by decide +kernel) ⟨Nat.le_of_ble_eq_true rfl, Nat.le_of_ble_eq_true rfl⟩) ⟨fun a U g mk q => by obtain ⟨q0, q1, qP, qK, qD, qZ, qN⟩ := q; exact ⟨q0, q1, qP, va_K.moved (u := U) (U := U.calling g mk a) (Vm.Alike.refl U.vm) qK, qD, sF.moved (u := U) (U := U.calling g mk a) (Vm.Alike.refl U.vm) qZ, nF.same rfl qN⟩, va_recv hK hP (ci := 0) (q0 := a) rfl (wld_o ct ad (xt G []) M hc hk (by decide)), fun U hU hW => ⟨rfl, by rw [hU], by rw [hU]; exact hP, va_K.moved hW.alike hK, hD.weaken (fun _ _ _ _ => trivial), by rw [hU]; exact ((hZ.kept hS.2.1).narrow hf9).moved hW.alike, hN.warm hW⟩⟩ rfl rfl hl.1 rfl (lv_room (by simp only [List.map, va_re_cat]; exact Nat.le_of_ble_eq_true rfl)) dX0_writeBlock_56 (room_d hT hbl)) hS (fun q _ h => hf9 q h) hf9 (fun r u t H locs ht hvm hw hB hz1 hk1 hS => ?_)
      obtain ⟨hP, hK9, hD9⟩ := hB
      rw [ht] at hP
      try dsimp only at hw
      subst hw
      refine W_cs (k := ([] : NN).length) (n := wt []) rfl rfl ?_
      have hD := hD9.weaken (fun _ q _ h => hf9 q.1 h)
      obtain ⟨y201, hy201, hF⟩ := bnd_some hF
      have J201 : ∀ (H : Heap) (locs : List Loc) (ls : Array Slot), va_P D classes (wld ct ad (xt G []) y200.1) H → va_D A (wld ct ad (xt G []) y200.1) → va_S A s.heap H locs → lv_has ls 8 [(4, .int x8), (3, .int x5), (2, .int x1), (0, .ref (ad a)), (1, .int p0)] → W p l e (headSpec wsX0_writeBlock ({ frames := 6, cells := y.1.length, slots := wt y.1, locals := 199 })).room s m ([.ref (ad a), .int p0] : List Value).toArray below meth c H locs ([] : NN).length (wt []) (MQ below (va_Qv (fun (u : Nat → Nat) => agr G.1 ad u) (fun u t => kE D ct u (xt G y.1) A y.2 t) A) ([.ref (ad a), .int p0] : List Value).toArray s y.1.length (wt y.1) A) (F0 m 67 ls [.long y201, .int (0 : Int32), va_re ad (M.2 a 2)]) := by
        intro H locs ls hP hD hS hl
        refine lv_iconst (v := (1 : Int32)) hx hb dX0_writeBlock_67 (by decide) ?_
        obtain ⟨b202, ho202, hc202, hk202, hF⟩ := dr_some hF
        refine W_st (st' := [.int (1 : Int32), .long y201, .int (0 : Int32), .ref (ad b202)]) (by rw [va_some ho202]) ?_
        obtain ⟨y203, hy203, hF⟩ := bnd_some hF
        obtain ⟨w204, hF, ew204⟩ := app_some hF
        obtain ⟨L205, eL205, hF⟩ := ltt_some hF
        have hT205 : L170 = ([] ++ y203.1) ++ w204.1 := by rw [hT, ew204]; simp only [List.append_assoc]
        have hf9 := wA_in hD hA9 hS
        refine va_callv (va_runV (As := [.int (0 : Int32), .long y201, .int (1 : Int32)]) (rest := []) ⟨hx, hb, hml, hown, hts⟩ (kX10_code l D ct ad Z (xt G []) y200.1 _ b202 ((0 : Int32)) y201 ((1 : Int32)) y203 hc202 hk202 hy203) (cwV 3 hts gX0_writeBlock_X10_code rfl rfl rfl (by decide +kernel) ⟨Nat.le_of_ble_eq_true rfl, Nat.le_of_ble_eq_true rfl⟩) ⟨fun a U g mk q => by obtain ⟨q0, q1, qP, qK, qD, qZ, qN⟩ := q; exact ⟨q0, q1, qP, va_K.moved (u := U) (U := U.calling g mk a) (Vm.Alike.refl U.vm) qK, qD, sF.moved (u := U) (U := U.calling g mk a) (Vm.Alike.refl U.vm) qZ, nF.same rfl qN⟩, va_recv hK hP (ci := 10) (q0 := b202) rfl (wld_o ct ad (xt G []) y200.1 hc202 hk202 (by decide)), fun U hU hW => ⟨rfl, by rw [hU], by rw [hU]; exact hP, va_K.moved hW.alike hK, hD.weaken (fun _ _ _ _ => trivial), by rw [hU]; exact ((hZ.kept hS.2.1).narrow hf9).moved hW.alike, hN.warm hW⟩⟩ rfl rfl hl.1 rfl (lv_room (Nat.le_of_ble_eq_true rfl)) dX0_writeBlock_68 (room_s hT205 hbl)) hS (fun q _ h => hf9 q h) hf9 (fun ad206 t H locs ht hvm hw hB hz1 hk1 hS => ?_)
        have hn207 := hw
        obtain ⟨hP, hK9, hD9⟩ := hB
        rw [ht] at hP
        have hD := hD9.weaken (fun _ q _ h => hf9 q.1 h)
        rw [xt_xt, ← eL205] at hP hD
        refine W_cs (k := L205.length) (n := wt L205) (by rw [eL205]; exact (len_s [] y203.1).symm) (by rw [eL205]; exact (wt_app [] y203.1).symm) ?_
        have hT : L170 = L205 ++ w204.1 := by rw [hT205, eL205]
        have h2 : y168.2 = w204.2 := by rw [h2, ew204]
        have hl := lv_sub (l' := [(4, .int x8), (3, .int x5), (2, .int x1), (0, .ref (ad a)), (1, .int p0)]) hl [0, 1, 2, 3, 4] rfl
        have e9 : ([(4, .int x8), (3, .int x5), (2, .int x1), (0, .ref (ad a)), (1, .int p0)] : List (Nat × Value)) = [(4, .int x8), (3, .int x5), (2, .int x1), (0, .ref (ad206 a)), (1, .int p0)] := (by first | rfl | simp only [hn207 a hc])
        rw [e9] at hl
        clear e9
        have hk : (xt G L205).2.1 a = 0 := by rw [eL205]; exact xt_k _ hc hk
        have hc : a < (xt G L205).1 := by rw [eL205]; exact xt_l _ hc
        have hk2 : (xt G L205).2.1 b2 = 9 := by rw [eL205]; exact xt_k _ hc2 hk2
        have hc2 : b2 < (xt G L205).1 := by rw [eL205]; exact xt_l _ hc2
        have hk3 : (xt G L205).2.1 b3 = 3 := by rw [eL205]; exact xt_k _ hc3 hk3
        have hc3 : b3 < (xt G L205).1 := by rw [eL205]; exact xt_l _ hc3
        have hk4 : (xt G L205).2.1 b4 = 13 := by rw [eL205]; exact xt_k _ hc4 hk4
        have hc4 : b4 < (xt G L205).1 := by rw [eL205]; exact xt_l _ hc4
        have hk7 : (xt G L205).2.1 b7 = 13 := by rw [eL205]; exact xt_k _ hc7 hk7
        have hc7 : b7 < (xt G L205).1 := by rw [eL205]; exact xt_l _ hc7
        have hk166 : (xt G L205).2.1 b166 = 13 := by rw [eL205]; exact xt_k _ hc166 hk166
        have hc166 : b166 < (xt G L205).1 := by rw [eL205]; exact xt_l _ hc166
        have hk202 : (xt G L205).2.1 b202 = 10 := by rw [eL205]; exact xt_k _ hc202 hk202
        have hc202 : b202 < (xt G L205).1 := by rw [eL205]; exact xt_l _ hc202
        have hag := agr_t (xt_ge _ _) hag hn207
        refine lv_goto (tgt := 126) hx hb dX0_writeBlock_71 (by decide) ?_
        obtain rfl := Option.some.inj hF
        have e1 : L170 = L205 := by rw [hT]; exact List.append_nil _
        have e2 : y168.2 = y203.2 := h2
        rw [e1] at J168
        try rw [e2] at J168
        exact J168 _ hag _ _ _ hP hD hS (lv_sub hl [0, 1, 2, 3, 4] rfl)
      clear hF
      have hF := hy201
      clear hy201
      refine lv_if_eq (tgt := 66) hx hb dX0_writeBlock_59 (by decide) (fun c208 => ?_) (fun c208 => ?_)
      · rw [if_pos c208] at hF
        refine lv_lconst (v := (0 : Int64)) hx hb dX0_writeBlock_66 rfl ?_
        obtain rfl := Option.some.inj hF
        exact J201 _ _ _ hP hD hS (lv_sub hl [0, 1, 2, 3, 4] rfl)
      · rw [if_neg c208] at hF
        refine lv_lconst (v := (1 : Int64)) hx hb dX0_writeBlock_62 rfl ?_
        refine lv_goto (tgt := 67) hx hb dX0_writeBlock_63 (by decide) ?_
        obtain rfl := Option.some.inj hF
        exact J201 _ _ _ hP hD hS (lv_sub hl [0, 1, 2, 3, 4] rfl)
