set_option maxRecDepth 20000 in
theorem gX0_codePicture_X0_beginPicture : GoodIn wuX0_codePicture (wsV RX0 200 RX0 yX0_beginPicture wuX0_beginPicture) := gu_V mw_2432 mw_2434 mw_114 mw_175 mw_2435
set_option maxRecDepth 20000 in
set_option maxRecDepth 20000 in
theorem gX0_codePicture_X0_endPicture : GoodIn wuX0_codePicture (wsV RX0 249 RX0 yX0_endPicture wuX0_endPicture) := gu_V mw_2717 mw_2719 mw_157 mw_175 mw_2720
set_option maxRecDepth 20000 in
theorem gX0_codePicture_X0_beginTry : GoodIn wuX0_codePicture (wsV RX0 203 RX0 yX0_beginTry wuX0_beginTry) := gu_V mw_2441 mw_2443 mw_115 mw_175 mw_2444
set_option maxRecDepth 20000 in
set_option maxRecDepth 20000 in
theorem gX0_codePicture_X0_isSliceEdge : GoodIn wuX0_codePicture (wsV RX0 206 RX0 yX0_isSliceEdge wuX0_isSliceEdge) := gu_V mw_2446 mw_2448 mw_116 mw_175 mw_2449
set_option maxRecDepth 20000 in
set_option maxRecDepth 20000 in
theorem gX0_codePicture_X0_drawStep : GoodIn wuX0_codePicture (wsV RX0 225 RX0 yX0_drawStep wuX0_drawStep) := gu_V mw_2615 mw_2617 mw_143 mw_175 mw_2618
set_option maxRecDepth 20000 in
set_option maxRecDepth 20000 in
theorem gX0_codePicture_X0_build : GoodIn wuX0_codePicture (wsV RX0 228 RX0 yX0_build wuX0_build) := gu_V mw_2619 mw_2621 mw_144 mw_175 mw_2622
set_option maxRecDepth 20000 in
set_option maxRecDepth 20000 in
theorem gX0_codePicture_X0_writeBlock : GoodIn wuX0_codePicture (wsV RX0 231 RX0 yX0_writeBlock wuX0_writeBlock) := gu_V mw_2648 mw_2650 mw_147 mw_175 mw_2651
set_option maxRecDepth 20000 in
set_option maxRecDepth 20000 in
theorem gX0_codePicture_X0_writeMotion : GoodIn wuX0_codePicture (wsV RX0 234 RX0 yX0_writeMotion wuX0_writeMotion) := gu_V mw_2668 mw_2670 mw_150 mw_175 mw_2671
set_option maxRecDepth 20000 in
set_option maxRecDepth 20000 in
theorem gX0_codePicture_X0_writePattern : GoodIn wuX0_codePicture (wsV RX0 237 RX0 yX0_writePattern wuX0_writePattern) := gu_V mw_2676 mw_2678 mw_151 mw_175 mw_2679
set_option maxRecDepth 20000 in
set_option maxRecDepth 20000 in
theorem gX0_codePicture_X0_writeLevels : GoodIn wuX0_codePicture (wsV RX0 240 RX0 yX0_writeLevels wuX0_writeLevels) := gu_V mw_2681 mw_2683 mw_152 mw_175 mw_2684
set_option maxRecDepth 20000 in
set_option maxRecDepth 20000 in
theorem gX0_codePicture_X9_endBlock : GoodIn wuX0_codePicture (wsV RX0 243 RX9 yX9_endBlock wuX9_endBlock) := gu_V mw_2711 mw_2152 mw_2153 mw_171 mw_2154
set_option maxRecDepth 20000 in
set_option maxRecDepth 20000 in
theorem gX0_codePicture_X0_endSlice : GoodIn wuX0_codePicture (wsV RX0 246 RX0 yX0_endSlice wuX0_endSlice) := gu_V mw_2712 mw_2714 mw_156 mw_175 mw_2715
set_option maxRecDepth 20000 in
set_option maxRecDepth 20000 in
theorem gX0_codePicture_X0_chooseByCosts : GoodIn wuX0_codePicture (wsV RX0 222 RX0 yX0_chooseByCosts wuX0_chooseByCosts) := gu_V mw_2525 mw_2527 mw_129 mw_175 mw_2528
set_option maxRecDepth 20000 in
set_option maxRecDepth 20000 in
theorem gX0_codePicture_X0_chooseByChance : GoodIn wuX0_codePicture (wsV RX0 219 RX0 yX0_chooseByChance wuX0_chooseByChance) := gu_V mw_2483 mw_2485 mw_123 mw_175 mw_2486
set_option maxRecDepth 20000 in
set_option maxRecDepth 20000 in
theorem gX0_codePicture_X0_beginSlice : GoodIn wuX0_codePicture (wsV RX0 210 RX0 yX0_beginSlice wuX0_beginSlice) := gu_V mw_2450 mw_2452 mw_117 mw_175 mw_2453
set_option maxRecDepth 20000 in
set_option maxRecDepth 20000 in
theorem gX0_codePicture_X0_writeHeader : GoodIn wuX0_codePicture (wsV RX0 213 RX0 yX0_writeHeader wuX0_writeHeader) := gu_V mw_2455 mw_2457 mw_118 mw_175 mw_2458
set_option maxRecDepth 20000 in
theorem dX0_codePicture_0 : decode cX0_codePicture 0 = .ok (.aload_n 0, 1) := by decide +kernel
theorem dX0_codePicture_1 : decode cX0_codePicture 1 = .ok (.getfield 23, 3) := by decide +kernel
theorem dX0_codePicture_4 : decode cX0_codePicture 4 = .ok (.iconst 0, 1) := by decide +kernel
theorem dX0_codePicture_5 : decode cX0_codePicture 5 = .ok (.iaload, 1) := by decide +kernel
theorem dX0_codePicture_6 : decode cX0_codePicture 6 = .ok (.aload_n 0, 1) := by decide +kernel
theorem dX0_codePicture_7 : decode cX0_codePicture 7 = .ok (.getfield 23, 3) := by decide +kernel
theorem dX0_codePicture_10 : decode cX0_codePicture 10 = .ok (.iconst 1, 1) := by decide +kernel
theorem dX0_codePicture_11 : decode cX0_codePicture 11 = .ok (.iaload, 1) := by decide +kernel
theorem dX0_codePicture_12 : decode cX0_codePicture 12 = .ok (.imul, 1) := by decide +kernel
theorem dX0_codePicture_13 : decode cX0_codePicture 13 = .ok (.istore_n 3, 1) := by decide +kernel
theorem dX0_codePicture_14 : decode cX0_codePicture 14 = .ok (.aload_n 0, 1) := by decide +kernel
theorem dX0_codePicture_15 : decode cX0_codePicture 15 = .ok (.getfield 29, 3) := by decide +kernel
theorem dX0_codePicture_18 : decode cX0_codePicture 18 = .ok (.getfield 125, 3) := by decide +kernel
theorem dX0_codePicture_21 : decode cX0_codePicture 21 = .ok (.istore 4, 2) := by decide +kernel
theorem dX0_codePicture_23 : decode cX0_codePicture 23 = .ok (.aload_n 0, 1) := by decide +kernel
theorem dX0_codePicture_24 : decode cX0_codePicture 24 = .ok (.getfield 29, 3) := by decide +kernel
theorem dX0_codePicture_27 : decode cX0_codePicture 27 = .ok (.getfield 128, 3) := by decide +kernel
theorem dX0_codePicture_30 : decode cX0_codePicture 30 = .ok (.istore 5, 2) := by decide +kernel
theorem dX0_codePicture_32 : decode cX0_codePicture 32 = .ok (.aload_n 0, 1) := by decide +kernel
theorem dX0_codePicture_33 : decode cX0_codePicture 33 = .ok (.getfield 113, 3) := by decide +kernel
theorem dX0_codePicture_36 : decode cX0_codePicture 36 = .ok (.istore 6, 2) := by decide +kernel
theorem dX0_codePicture_38 : decode cX0_codePicture 38 = .ok (.aload_n 0, 1) := by decide +kernel
theorem dX0_codePicture_39 : decode cX0_codePicture 39 = .ok (.getfield 23, 3) := by decide +kernel
theorem dX0_codePicture_42 : decode cX0_codePicture 42 = .ok (.iconst 3, 1) := by decide +kernel
theorem dX0_codePicture_43 : decode cX0_codePicture 43 = .ok (.iload_n 2, 1) := by decide +kernel
theorem dX0_codePicture_44 : decode cX0_codePicture 44 = .ok (.iconst 2, 1) := by decide +kernel
theorem dX0_codePicture_45 : decode cX0_codePicture 45 = .ok (.if_icmp .ne 7, 3) := by decide +kernel
theorem dX0_codePicture_48 : decode cX0_codePicture 48 = .ok (.iconst 0, 1) := by decide +kernel
theorem dX0_codePicture_49 : decode cX0_codePicture 49 = .ok (.goto 12, 3) := by decide +kernel
theorem dX0_codePicture_52 : decode cX0_codePicture 52 = .ok (.iload_n 2, 1) := by decide +kernel
theorem dX0_codePicture_53 : decode cX0_codePicture 53 = .ok (.ifCond .ne 7, 3) := by decide +kernel
theorem dX0_codePicture_56 : decode cX0_codePicture 56 = .ok (.iconst 1, 1) := by decide +kernel
theorem dX0_codePicture_57 : decode cX0_codePicture 57 = .ok (.goto 4, 3) := by decide +kernel
theorem dX0_codePicture_60 : decode cX0_codePicture 60 = .ok (.iconst 2, 1) := by decide +kernel
theorem dX0_codePicture_61 : decode cX0_codePicture 61 = .ok (.iadd, 1) := by decide +kernel
theorem dX0_codePicture_62 : decode cX0_codePicture 62 = .ok (.iaload, 1) := by decide +kernel
theorem dX0_codePicture_63 : decode cX0_codePicture 63 = .ok (.istore 7, 2) := by decide +kernel
theorem dX0_codePicture_65 : decode cX0_codePicture 65 = .ok (.iconst 0, 1) := by decide +kernel
theorem dX0_codePicture_66 : decode cX0_codePicture 66 = .ok (.istore 8, 2) := by decide +kernel
theorem dX0_codePicture_68 : decode cX0_codePicture 68 = .ok (.iconst 0, 1) := by decide +kernel
theorem dX0_codePicture_69 : decode cX0_codePicture 69 = .ok (.istore 9, 2) := by decide +kernel
theorem dX0_codePicture_71 : decode cX0_codePicture 71 = .ok (.aload_n 0, 1) := by decide +kernel
theorem dX0_codePicture_72 : decode cX0_codePicture 72 = .ok (.iload_n 1, 1) := by decide +kernel
theorem dX0_codePicture_73 : decode cX0_codePicture 73 = .ok (.iload_n 2, 1) := by decide +kernel
theorem dX0_codePicture_74 : decode cX0_codePicture 74 = .ok (.invokevirtual 200, 3) := by decide +kernel
theorem dX0_codePicture_77 : decode cX0_codePicture 77 = .ok (.iload 9, 2) := by decide +kernel
theorem dX0_codePicture_79 : decode cX0_codePicture 79 = .ok (.bipush 9, 2) := by decide +kernel
theorem dX0_codePicture_81 : decode cX0_codePicture 81 = .ok (.if_icmp .ge 273, 3) := by decide +kernel
theorem dX0_codePicture_84 : decode cX0_codePicture 84 = .ok (.iinc 9 1, 3) := by decide +kernel
theorem dX0_codePicture_87 : decode cX0_codePicture 87 = .ok (.aload_n 0, 1) := by decide +kernel
theorem dX0_codePicture_88 : decode cX0_codePicture 88 = .ok (.getfield 29, 3) := by decide +kernel
theorem dX0_codePicture_91 : decode cX0_codePicture 91 = .ok (.iload 4, 2) := by decide +kernel
theorem dX0_codePicture_93 : decode cX0_codePicture 93 = .ok (.putfield 125, 3) := by decide +kernel
theorem dX0_codePicture_96 : decode cX0_codePicture 96 = .ok (.aload_n 0, 1) := by decide +kernel
theorem dX0_codePicture_97 : decode cX0_codePicture 97 = .ok (.getfield 29, 3) := by decide +kernel
theorem dX0_codePicture_100 : decode cX0_codePicture 100 = .ok (.iload 5, 2) := by decide +kernel
theorem dX0_codePicture_102 : decode cX0_codePicture 102 = .ok (.putfield 128, 3) := by decide +kernel
theorem dX0_codePicture_105 : decode cX0_codePicture 105 = .ok (.aload_n 0, 1) := by decide +kernel
theorem dX0_codePicture_106 : decode cX0_codePicture 106 = .ok (.iload 6, 2) := by decide +kernel
theorem dX0_codePicture_108 : decode cX0_codePicture 108 = .ok (.putfield 113, 3) := by decide +kernel
theorem dX0_codePicture_111 : decode cX0_codePicture 111 = .ok (.aload_n 0, 1) := by decide +kernel
theorem dX0_codePicture_112 : decode cX0_codePicture 112 = .ok (.iload 7, 2) := by decide +kernel
theorem dX0_codePicture_114 : decode cX0_codePicture 114 = .ok (.invokevirtual 203, 3) := by decide +kernel
theorem dX0_codePicture_117 : decode cX0_codePicture 117 = .ok (.iconst 0, 1) := by decide +kernel
theorem dX0_codePicture_118 : decode cX0_codePicture 118 = .ok (.istore 10, 2) := by decide +kernel
theorem dX0_codePicture_120 : decode cX0_codePicture 120 = .ok (.iload 10, 2) := by decide +kernel
theorem dX0_codePicture_122 : decode cX0_codePicture 122 = .ok (.iload_n 3, 1) := by decide +kernel
theorem dX0_codePicture_123 : decode cX0_codePicture 123 = .ok (.if_icmp .ge 141, 3) := by decide +kernel
theorem dX0_codePicture_126 : decode cX0_codePicture 126 = .ok (.aload_n 0, 1) := by decide +kernel
theorem dX0_codePicture_127 : decode cX0_codePicture 127 = .ok (.iload 10, 2) := by decide +kernel
theorem dX0_codePicture_129 : decode cX0_codePicture 129 = .ok (.invokevirtual 206, 3) := by decide +kernel
theorem dX0_codePicture_132 : decode cX0_codePicture 132 = .ok (.ifCond .eq 13, 3) := by decide +kernel
theorem dX0_codePicture_135 : decode cX0_codePicture 135 = .ok (.aload_n 0, 1) := by decide +kernel
theorem dX0_codePicture_136 : decode cX0_codePicture 136 = .ok (.iload 10, 2) := by decide +kernel
theorem dX0_codePicture_138 : decode cX0_codePicture 138 = .ok (.invokevirtual 210, 3) := by decide +kernel
theorem dX0_codePicture_141 : decode cX0_codePicture 141 = .ok (.aload_n 0, 1) := by decide +kernel
theorem dX0_codePicture_142 : decode cX0_codePicture 142 = .ok (.invokevirtual 213, 3) := by decide +kernel
theorem dX0_codePicture_145 : decode cX0_codePicture 145 = .ok (.aload_n 0, 1) := by decide +kernel
theorem dX0_codePicture_146 : decode cX0_codePicture 146 = .ok (.getfield 23, 3) := by decide +kernel
theorem dX0_codePicture_149 : decode cX0_codePicture 149 = .ok (.bipush 17, 2) := by decide +kernel
theorem dX0_codePicture_151 : decode cX0_codePicture 151 = .ok (.iaload, 1) := by decide +kernel
theorem dX0_codePicture_152 : decode cX0_codePicture 152 = .ok (.iconst 1, 1) := by decide +kernel
theorem dX0_codePicture_153 : decode cX0_codePicture 153 = .ok (.if_icmp .ne 22, 3) := by decide +kernel
theorem dX0_codePicture_156 : decode cX0_codePicture 156 = .ok (.aload_n 0, 1) := by decide +kernel
theorem dX0_codePicture_157 : decode cX0_codePicture 157 = .ok (.getfield 36, 3) := by decide +kernel
theorem dX0_codePicture_160 : decode cX0_codePicture 160 = .ok (.getfield 216, 3) := by decide +kernel
theorem dX0_codePicture_163 : decode cX0_codePicture 163 = .ok (.bipush 8, 2) := by decide +kernel
theorem dX0_codePicture_165 : decode cX0_codePicture 165 = .ok (.iload 10, 2) := by decide +kernel
theorem dX0_codePicture_167 : decode cX0_codePicture 167 = .ok (.imul, 1) := by decide +kernel
theorem dX0_codePicture_168 : decode cX0_codePicture 168 = .ok (.iconst 0, 1) := by decide +kernel
theorem dX0_codePicture_169 : decode cX0_codePicture 169 = .ok (.iadd, 1) := by decide +kernel
theorem dX0_codePicture_170 : decode cX0_codePicture 170 = .ok (.iconst 2, 1) := by decide +kernel
theorem dX0_codePicture_171 : decode cX0_codePicture 171 = .ok (.iastore, 1) := by decide +kernel
theorem dX0_codePicture_172 : decode cX0_codePicture 172 = .ok (.goto 29, 3) := by decide +kernel
theorem dX0_codePicture_175 : decode cX0_codePicture 175 = .ok (.aload_n 0, 1) := by decide +kernel
theorem dX0_codePicture_176 : decode cX0_codePicture 176 = .ok (.getfield 23, 3) := by decide +kernel
theorem dX0_codePicture_179 : decode cX0_codePicture 179 = .ok (.bipush 8, 2) := by decide +kernel
theorem dX0_codePicture_181 : decode cX0_codePicture 181 = .ok (.iaload, 1) := by decide +kernel
theorem dX0_codePicture_182 : decode cX0_codePicture 182 = .ok (.iconst 1, 1) := by decide +kernel
theorem dX0_codePicture_183 : decode cX0_codePicture 183 = .ok (.if_icmp .ne 12, 3) := by decide +kernel
theorem dX0_codePicture_186 : decode cX0_codePicture 186 = .ok (.aload_n 0, 1) := by decide +kernel
theorem dX0_codePicture_187 : decode cX0_codePicture 187 = .ok (.iload 10, 2) := by decide +kernel
theorem dX0_codePicture_189 : decode cX0_codePicture 189 = .ok (.invokevirtual 219, 3) := by decide +kernel
theorem dX0_codePicture_192 : decode cX0_codePicture 192 = .ok (.goto 9, 3) := by decide +kernel
theorem dX0_codePicture_195 : decode cX0_codePicture 195 = .ok (.aload_n 0, 1) := by decide +kernel
theorem dX0_codePicture_196 : decode cX0_codePicture 196 = .ok (.iload 10, 2) := by decide +kernel
theorem dX0_codePicture_198 : decode cX0_codePicture 198 = .ok (.invokevirtual 222, 3) := by decide +kernel
theorem dX0_codePicture_201 : decode cX0_codePicture 201 = .ok (.aload_n 0, 1) := by decide +kernel
theorem dX0_codePicture_202 : decode cX0_codePicture 202 = .ok (.iload 10, 2) := by decide +kernel
theorem dX0_codePicture_204 : decode cX0_codePicture 204 = .ok (.invokevirtual 225, 3) := by decide +kernel
theorem dX0_codePicture_207 : decode cX0_codePicture 207 = .ok (.istore 11, 2) := by decide +kernel
theorem dX0_codePicture_209 : decode cX0_codePicture 209 = .ok (.aload_n 0, 1) := by decide +kernel
theorem dX0_codePicture_210 : decode cX0_codePicture 210 = .ok (.iload 10, 2) := by decide +kernel
theorem dX0_codePicture_212 : decode cX0_codePicture 212 = .ok (.iload 11, 2) := by decide +kernel
theorem dX0_codePicture_214 : decode cX0_codePicture 214 = .ok (.invokevirtual 228, 3) := by decide +kernel
theorem dX0_codePicture_217 : decode cX0_codePicture 217 = .ok (.aload_n 0, 1) := by decide +kernel
theorem dX0_codePicture_218 : decode cX0_codePicture 218 = .ok (.iload 10, 2) := by decide +kernel
theorem dX0_codePicture_220 : decode cX0_codePicture 220 = .ok (.invokevirtual 231, 3) := by decide +kernel
theorem dX0_codePicture_223 : decode cX0_codePicture 223 = .ok (.aload_n 0, 1) := by decide +kernel
theorem dX0_codePicture_224 : decode cX0_codePicture 224 = .ok (.iload 10, 2) := by decide +kernel
theorem dX0_codePicture_226 : decode cX0_codePicture 226 = .ok (.invokevirtual 234, 3) := by decide +kernel
theorem dX0_codePicture_229 : decode cX0_codePicture 229 = .ok (.aload_n 0, 1) := by decide +kernel
theorem dX0_codePicture_230 : decode cX0_codePicture 230 = .ok (.iload 10, 2) := by decide +kernel
theorem dX0_codePicture_232 : decode cX0_codePicture 232 = .ok (.iload 11, 2) := by decide +kernel
theorem dX0_codePicture_234 : decode cX0_codePicture 234 = .ok (.invokevirtual 237, 3) := by decide +kernel
theorem dX0_codePicture_237 : decode cX0_codePicture 237 = .ok (.aload_n 0, 1) := by decide +kernel
theorem dX0_codePicture_238 : decode cX0_codePicture 238 = .ok (.iload 10, 2) := by decide +kernel
theorem dX0_codePicture_240 : decode cX0_codePicture 240 = .ok (.invokevirtual 240, 3) := by decide +kernel
theorem dX0_codePicture_243 : decode cX0_codePicture 243 = .ok (.aload_n 0, 1) := by decide +kernel
theorem dX0_codePicture_244 : decode cX0_codePicture 244 = .ok (.getfield 36, 3) := by decide +kernel
theorem dX0_codePicture_247 : decode cX0_codePicture 247 = .ok (.iload 10, 2) := by decide +kernel
theorem dX0_codePicture_249 : decode cX0_codePicture 249 = .ok (.invokevirtual 243, 3) := by decide +kernel
theorem dX0_codePicture_252 : decode cX0_codePicture 252 = .ok (.aload_n 0, 1) := by decide +kernel
theorem dX0_codePicture_253 : decode cX0_codePicture 253 = .ok (.iload 10, 2) := by decide +kernel
theorem dX0_codePicture_255 : decode cX0_codePicture 255 = .ok (.invokevirtual 246, 3) := by decide +kernel
theorem dX0_codePicture_258 : decode cX0_codePicture 258 = .ok (.iinc 10 1, 3) := by decide +kernel
theorem dX0_codePicture_261 : decode cX0_codePicture 261 = .ok (.goto (-141), 3) := by decide +kernel
theorem dX0_codePicture_264 : decode cX0_codePicture 264 = .ok (.bipush 8, 2) := by decide +kernel
theorem dX0_codePicture_266 : decode cX0_codePicture 266 = .ok (.aload_n 0, 1) := by decide +kernel
theorem dX0_codePicture_267 : decode cX0_codePicture 267 = .ok (.getfield 29, 3) := by decide +kernel
theorem dX0_codePicture_270 : decode cX0_codePicture 270 = .ok (.getfield 125, 3) := by decide +kernel
theorem dX0_codePicture_273 : decode cX0_codePicture 273 = .ok (.iload 4, 2) := by decide +kernel
theorem dX0_codePicture_275 : decode cX0_codePicture 275 = .ok (.isub, 1) := by decide +kernel
theorem dX0_codePicture_276 : decode cX0_codePicture 276 = .ok (.iconst 4, 1) := by decide +kernel
theorem dX0_codePicture_277 : decode cX0_codePicture 277 = .ok (.aload_n 0, 1) := by decide +kernel
theorem dX0_codePicture_278 : decode cX0_codePicture 278 = .ok (.getfield 29, 3) := by decide +kernel
theorem dX0_codePicture_281 : decode cX0_codePicture 281 = .ok (.getfield 128, 3) := by decide +kernel
theorem dX0_codePicture_284 : decode cX0_codePicture 284 = .ok (.iload 5, 2) := by decide +kernel
theorem dX0_codePicture_286 : decode cX0_codePicture 286 = .ok (.isub, 1) := by decide +kernel
theorem dX0_codePicture_287 : decode cX0_codePicture 287 = .ok (.imul, 1) := by decide +kernel
theorem dX0_codePicture_288 : decode cX0_codePicture 288 = .ok (.isub, 1) := by decide +kernel
theorem dX0_codePicture_289 : decode cX0_codePicture 289 = .ok (.imul, 1) := by decide +kernel
theorem dX0_codePicture_290 : decode cX0_codePicture 290 = .ok (.istore 8, 2) := by decide +kernel
theorem dX0_codePicture_292 : decode cX0_codePicture 292 = .ok (.aload_n 0, 1) := by decide +kernel
theorem dX0_codePicture_293 : decode cX0_codePicture 293 = .ok (.getfield 23, 3) := by decide +kernel
theorem dX0_codePicture_296 : decode cX0_codePicture 296 = .ok (.bipush 16, 2) := by decide +kernel
theorem dX0_codePicture_298 : decode cX0_codePicture 298 = .ok (.iaload, 1) := by decide +kernel
theorem dX0_codePicture_299 : decode cX0_codePicture 299 = .ok (.ifCond .eq 55, 3) := by decide +kernel
theorem dX0_codePicture_302 : decode cX0_codePicture 302 = .ok (.iload 8, 2) := by decide +kernel
theorem dX0_codePicture_304 : decode cX0_codePicture 304 = .ok (.aload_n 0, 1) := by decide +kernel
theorem dX0_codePicture_305 : decode cX0_codePicture 305 = .ok (.getfield 23, 3) := by decide +kernel
theorem dX0_codePicture_308 : decode cX0_codePicture 308 = .ok (.bipush 16, 2) := by decide +kernel
theorem dX0_codePicture_310 : decode cX0_codePicture 310 = .ok (.iaload, 1) := by decide +kernel
theorem dX0_codePicture_311 : decode cX0_codePicture 311 = .ok (.aload_n 0, 1) := by decide +kernel
theorem dX0_codePicture_312 : decode cX0_codePicture 312 = .ok (.getfield 116, 3) := by decide +kernel
theorem dX0_codePicture_315 : decode cX0_codePicture 315 = .ok (.iadd, 1) := by decide +kernel
theorem dX0_codePicture_316 : decode cX0_codePicture 316 = .ok (.if_icmp .le 38, 3) := by decide +kernel
theorem dX0_codePicture_319 : decode cX0_codePicture 319 = .ok (.iload 7, 2) := by decide +kernel
theorem dX0_codePicture_321 : decode cX0_codePicture 321 = .ok (.bipush 51, 2) := by decide +kernel
theorem dX0_codePicture_323 : decode cX0_codePicture 323 = .ok (.if_icmp .ne 6, 3) := by decide +kernel
theorem dX0_codePicture_326 : decode cX0_codePicture 326 = .ok (.goto 28, 3) := by decide +kernel
theorem dX0_codePicture_329 : decode cX0_codePicture 329 = .ok (.iload 7, 2) := by decide +kernel
theorem dX0_codePicture_331 : decode cX0_codePicture 331 = .ok (.bipush 6, 2) := by decide +kernel
theorem dX0_codePicture_333 : decode cX0_codePicture 333 = .ok (.iadd, 1) := by decide +kernel
theorem dX0_codePicture_334 : decode cX0_codePicture 334 = .ok (.bipush 51, 2) := by decide +kernel
theorem dX0_codePicture_336 : decode cX0_codePicture 336 = .ok (.if_icmp .le 8, 3) := by decide +kernel
theorem dX0_codePicture_339 : decode cX0_codePicture 339 = .ok (.bipush 51, 2) := by decide +kernel
theorem dX0_codePicture_341 : decode cX0_codePicture 341 = .ok (.goto 8, 3) := by decide +kernel
theorem dX0_codePicture_344 : decode cX0_codePicture 344 = .ok (.iload 7, 2) := by decide +kernel
theorem dX0_codePicture_346 : decode cX0_codePicture 346 = .ok (.bipush 6, 2) := by decide +kernel
theorem dX0_codePicture_348 : decode cX0_codePicture 348 = .ok (.iadd, 1) := by decide +kernel
theorem dX0_codePicture_349 : decode cX0_codePicture 349 = .ok (.istore 7, 2) := by decide +kernel
theorem dX0_codePicture_351 : decode cX0_codePicture 351 = .ok (.goto (-274), 3) := by decide +kernel
theorem dX0_codePicture_354 : decode cX0_codePicture 354 = .ok (.aload_n 0, 1) := by decide +kernel
theorem dX0_codePicture_355 : decode cX0_codePicture 355 = .ok (.iload 8, 2) := by decide +kernel
theorem dX0_codePicture_357 : decode cX0_codePicture 357 = .ok (.iload 7, 2) := by decide +kernel
theorem dX0_codePicture_359 : decode cX0_codePicture 359 = .ok (.iload 9, 2) := by decide +kernel
theorem dX0_codePicture_361 : decode cX0_codePicture 361 = .ok (.invokevirtual 249, 3) := by decide +kernel
theorem dX0_codePicture_364 : decode cX0_codePicture 364 = .ok (.return_, 1) := by decide +kernel
noncomputable def FX0_codePicture (G : GG) (M : DD) (a : Nat) (p0 : Int32) (p1 : Int32) : Option (NN × DD) :=
  dr (xt G []) 13 ((M.2 a 1)) fun b2 =>
  chk (¬ (((0 : Int32)) < 0 ∨ (xt G []).2.2 b2 ≤ ((0 : Int32)).toNatClampNeg)) <|
  ltt (M.1 b2 ((0 : Int32)).toNatClampNeg) fun x3 =>
  chk (¬ (((1 : Int32)) < 0 ∨ (xt G []).2.2 b2 ≤ ((1 : Int32)).toNatClampNeg)) <|
  ltt (M.1 b2 ((1 : Int32)).toNatClampNeg) fun x4 =>
  ltt ((x3 * x4)) fun x5 =>
  dr (xt G []) 10 ((M.2 a 2)) fun b6 =>
  ltt (M.1 b6 1) fun x7 =>
  ltt (M.1 b6 2) fun x8 =>
  ltt (M.1 a 14) fun x9 =>
  bnd (if p1 = ((2 : Int32)) then (some ((0 : Int32))) else
  (bnd (if p1 = ((0 : Int32)) then (some ((1 : Int32))) else
  (some ((2 : Int32)))) fun (y126 : Int32) =>
  some (y126))) fun (y10 : Int32) =>
  ltt ((((3 : Int32)) + y10)) fun x11 =>
  chk (¬ (x11 < 0 ∨ (xt G []).2.2 b2 ≤ x11.toNatClampNeg)) <|
  ltt (M.1 b2 x11.toNatClampNeg) fun x12 =>
  bnd (FX0_beginPicture (xt G []) M a p0 p1) fun y13 =>
  app y13.1 <|
  ltt ([] ++ y13.1) fun L15 =>
  bnd (itrA (fun (s19 : NN × Int32 × Int32 × Int32 × DD) => ((if ((9 : Int32)) ≤ s19.2.2.2.1 then (some ([], .inr ((s19.2.1, s19.2.2.1, s19.2.2.2.1, s19.2.2.2.2)))) else
  (ltt (s19.2.2.2.1 + (1 : Int32)) fun x30 =>
  dr (xt G s19.1) 10 ((s19.2.2.2.2.2 a 2)) fun b31 =>
  ltt (uI s19.2.2.2.2 b31 1 x7) fun M32 =>
  dr (xt G s19.1) 10 ((M32.2 a 2)) fun b33 =>
  ltt (uI M32 b33 2 x8) fun M34 =>
  ltt (uI M34 a 14 x9) fun M35 =>
  bnd (FX0_beginTry (xt G s19.1) M35 a s19.2.1) fun y36 =>
  bnd (itrA (fun (s38 : NN × Int32 × DD) => ((if x5 ≤ s38.2.1 then (some ([], .inr ((s38.2.1, s38.2.2)))) else
  (bnd (FX0_isSliceEdge (xt G s38.1) s38.2.2 a s38.2.1) fun y68 =>
  bnd (if y68.2 = ((0 : Int32)) then (some ([], y68.1)) else
  (bnd (FX0_beginSlice (xt G s38.1) y68.1 a s38.2.1) fun y119 =>
  bnd (FX0_writeHeader (xt G s38.1) y119 a) fun y120 =>
  app y120.1 <|
  ltt (s38.1 ++ y120.1) fun L122 =>
  some ([], y120.2))) fun (y69 : NN × DD) =>
  app y69.1 <|
  ltt (s38.1 ++ y69.1) fun L71 =>
  dr (xt G L71) 13 ((y69.2.2 a 1)) fun b73 =>
  chk (¬ (((17 : Int32)) < 0 ∨ (xt G L71).2.2 b73 ≤ ((17 : Int32)).toNatClampNeg)) <|
  ltt (y69.2.1 b73 ((17 : Int32)).toNatClampNeg) fun x74 =>
  bnd (if x74 = ((1 : Int32)) then (dr (xt G L71) 9 ((y69.2.2 a 3)) fun b112 =>
  ltt ((((8 : Int32)) * s38.2.1)) fun x113 =>
  ltt ((x113 + ((0 : Int32)))) fun x114 =>
  dr (xt G L71) 13 ((y69.2.2 b112 6)) fun b115 =>
  chk (¬ (x114 < 0 ∨ (xt G L71).2.2 b115 ≤ x114.toNatClampNeg)) <|
  ltt (uI y69.2 b115 x114.toNatClampNeg ((2 : Int32))) fun M116 =>
  some (M116)) else
  (chk (¬ (((8 : Int32)) < 0 ∨ (xt G L71).2.2 b73 ≤ ((8 : Int32)).toNatClampNeg)) <|
  ltt (y69.2.1 b73 ((8 : Int32)).toNatClampNeg) fun x107 =>
  bnd (if x107 = ((1 : Int32)) then (bnd (FX0_chooseByChance (xt G L71) y69.2 a s38.2.1) fun y111 =>
  some (y111)) else
  (bnd (FX0_chooseByCosts (xt G L71) y69.2 a s38.2.1) fun y110 =>
  some (y110))) fun (y108 : DD) =>
  some (y108))) fun (y75 : DD) =>
  bnd (FX0_drawStep (xt G L71) y75 a s38.2.1) fun y76 =>
  bnd (FX0_build (xt G L71) y76.1 a s38.2.1 y76.2) fun y77 =>
  bnd (FX0_writeBlock (xt G L71) y77 a s38.2.1) fun y78 =>
  app y78.1 <|
  ltt (L71 ++ y78.1) fun L80 =>
  bnd (FX0_writeMotion (xt G L80) y78.2 a s38.2.1) fun y83 =>
  app y83.1 <|
  ltt (L80 ++ y83.1) fun L85 =>
  bnd (FX0_writePattern (xt G L85) y83.2 a s38.2.1 y76.2) fun y88 =>
  app y88.1 <|
  ltt (L85 ++ y88.1) fun L90 =>
  bnd (FX0_writeLevels (xt G L90) y88.2 a s38.2.1) fun y93 =>
  app y93.1 <|
  ltt (L90 ++ y93.1) fun L95 =>
  dr (xt G L95) 9 ((y93.2.2 a 3)) fun b98 =>
  bnd (FX9_endBlock (xt G L95) y93.2 b98 s38.2.1) fun y99 =>
  bnd (FX0_endSlice (xt G L95) y99 a s38.2.1) fun y100 =>
  app y100.1 <|
  ltt (L95 ++ y100.1) fun L102 =>
  ltt (s38.2.1 + (1 : Int32)) fun x105 =>
  some ([], .inl (L102, (x105, y100.2))))) : Option (NN × ((NN × Int32 × DD) ⊕ (Int32 × DD))))) 1000000 (s19.1, ((0 : Int32), y36))) fun (y37 : NN × Int32 × DD) =>
  app y37.1 <|
  ltt (s19.1 ++ y37.1) fun L40 =>
  dr (xt G L40) 10 ((y37.2.2.2 a 2)) fun b42 =>
  ltt (y37.2.2.1 b42 1) fun x43 =>
  ltt ((x43 - x7)) fun x44 =>
  ltt (y37.2.2.1 b42 2) fun x45 =>
  ltt ((x45 - x8)) fun x46 =>
  ltt ((((4 : Int32)) * x46)) fun x47 =>
  ltt ((x44 - x47)) fun x48 =>
  ltt ((((8 : Int32)) * x48)) fun x49 =>
  dr (xt G L40) 13 ((y37.2.2.2 a 1)) fun b50 =>
  chk (¬ (((16 : Int32)) < 0 ∨ (xt G L40).2.2 b50 ≤ ((16 : Int32)).toNatClampNeg)) <|
  ltt (y37.2.2.1 b50 ((16 : Int32)).toNatClampNeg) fun x51 =>
  if x51 = ((0 : Int32)) then (some ([], .inr ((s19.2.1, x49, x30, y37.2.2)))) else
  (chk (¬ (((16 : Int32)) < 0 ∨ (xt G L40).2.2 b50 ≤ ((16 : Int32)).toNatClampNeg)) <|
  ltt (y37.2.2.1 b50 ((16 : Int32)).toNatClampNeg) fun x53 =>
  ltt (y37.2.2.1 a 15) fun x54 =>
  ltt ((x53 + x54)) fun x55 =>
  if x49 ≤ x55 then (some ([], .inr ((s19.2.1, x49, x30, y37.2.2)))) else
  (if s19.2.1 = ((51 : Int32)) then (some ([], .inr ((s19.2.1, x49, x30, y37.2.2)))) else
  (ltt ((s19.2.1 + ((6 : Int32)))) fun x58 =>
  bnd (if x58 ≤ ((51 : Int32)) then (ltt ((s19.2.1 + ((6 : Int32)))) fun x61 =>
  some (x61)) else
  (some ((51 : Int32)))) fun (y59 : Int32) =>
  some ([], .inl (L40, (y59, x49, x30, y37.2.2)))))))) : Option (NN × ((NN × Int32 × Int32 × Int32 × DD) ⊕ (Int32 × Int32 × Int32 × DD))))) 1000000 (L15, (x12, (0 : Int32), (0 : Int32), y13.2))) fun (y18 : NN × Int32 × Int32 × Int32 × DD) =>
  app y18.1 <|
  ltt (L15 ++ y18.1) fun L21 =>
  bnd (FX0_endPicture (xt G L21) y18.2.2.2.2 a y18.2.2.1 y18.2.1 y18.2.2.2.1) fun y23 =>
  some ([], y23)
set_option maxHeartbeats 4000000 in
set_option maxRecDepth 100000 in
theorem kX0_codePicture (l : Launch) (D : va_G) (ct : CT) (ad : Nat → Nat) (Z : Nat → Nat) (G : GG) (M : DD) (sz : Nat) (a : Nat) (p0 : Int32) (p1 : Int32) (y : NN × DD) (hc : a < G.1) (hk : G.2.1 a = 0) (hF : FX0_codePicture G M a p0 p1 = some y) : Met l yX0_codePicture wuX0_codePicture ({ frames := 8, cells := y.1.length, slots := wt y.1, locals := 241 }) (va_Pc [.ref (ad a), .int p0, .int p1] (kB D ct ad Z G M sz)) (va_Qv (fun (u : Nat → Nat) => agr G.1 ad u) (fun u t => kE D ct u (xt G y.1) (wA ad G sz) y.2 t) (wA ad G sz)) y.1.length (wt y.1) (wA ad G sz) := by
  refine Met.ofW (cc := cX0_codePicture) (maxL := 12) (ret := none) (by decide) rfl ?_
  intro p e s m args below meth c s₁ B hml hv
  obtain ⟨rfl, hsz, hP, hK, hD0, hZ, hN⟩ := hv
  have hx := B.exec
  have hb := B.bytes
  have hr := B.returns
  have hts := atoms_spec (ws := wuX0_codePicture) B.pre
  have hown : s.vm.findClass RX0 = some m.cls := findClass_of_methodNamed B.named
  have hlocks := B.notSynchronized
  subst hsz
  have hD := wD_self (sz := s.heap.size) hD0
  have hA9 : ∀ q, s.heap.size ≤ q → wA ad G s.heap.size q := fun q h => Or.inr h
  generalize hAe : wA ad G s.heap.size = A at hD hA9 hZ ⊢
  have hS : va_S A s.heap s.heap [] := va_S.rf
  have hl := lv_entry ([.ref (ad a), .int p0, .int p1]) (n := 12) (Nat.le_of_ble_eq_true rfl)
  rw [lg_entry_eq]
  generalize (lg_sl ([.ref (ad a), .int p0, .int p1]) ++ List.replicate (12 - (lg_sl ([.ref (ad a), .int p0, .int p1])).length) Slot.unset).toArray = ls at hl ⊢
  have hl : lv_has ls 12 [(0, .ref (ad a)), (1, .int p0), (2, .int p1)] := hl
  unfold FX0_codePicture at hF
  rw [← wld_0 ct ad G M] at hP hD
  have hk := xt_k0 hc hk
  have hc := xt_l0 hc
  have hag := agr_rf G.1 ad
  obtain ⟨w0, hw0⟩ : ∃ z, z = y := ⟨_, rfl⟩
  rw [← hw0] at hF
  have hT : y.1 = [] ++ w0.1 := by rw [hw0]; rfl
  have h2 : y.2 = w0.2 := by rw [hw0]
  have hbl : y.1.length ≤ y.1.length ∧ wt y.1 ≤ wt y.1 := ⟨Nat.le_refl _, Nat.le_refl _⟩
  refine lv_aload_n hx hb dX0_codePicture_0 rfl (lv_at hl 0 rfl) ?_
  refine va_get (D := D) (ci := 0) (v := va_re ad (M.2 a 1)) (C := RX0) (T := TX0) (N := 21) hx hb hts (mus hf_X0) hown hK hP a (wld_o ct ad (xt G []) M hc hk (by decide)) rfl 1 (by decide) (hts (.fieldLink RX0 23 "VideoSuite$Coder" "now" "[I") (mu mw_813)) (fun _ h9 => h9) rfl dX0_codePicture_1 ?_
  refine lv_iconst (v := (0 : Int32)) hx hb dX0_codePicture_4 (by decide) ?_
  obtain ⟨b2, ho2, hc2, hk2, hF⟩ := dr_some hF
  refine W_st (st' := [.int (0 : Int32), .ref (ad b2)]) (by rw [va_some ho2]) ?_
  obtain ⟨hvc, hF⟩ := chk_some hF
  refine va_iald hx hb hK hP b2 1 (wld_i ct ad (xt G []) M hc2 hk2) rfl hvc dX0_codePicture_5 ?_
  obtain ⟨x3, ex3, hF⟩ := ltt_some hF
  refine lv_topi (fun zx3 ezx3 => ?_)
  obtain rfl : x3 = zx3 := ex3.trans ezx3.symm
  refine lv_aload_n hx hb dX0_codePicture_6 rfl (lv_at hl 0 rfl) ?_
  refine va_get (D := D) (ci := 0) (v := va_re ad (M.2 a 1)) (C := RX0) (T := TX0) (N := 21) hx hb hts (mus hf_X0) hown hK hP a (wld_o ct ad (xt G []) M hc hk (by decide)) rfl 1 (by decide) (hts (.fieldLink RX0 23 "VideoSuite$Coder" "now" "[I") (mu mw_813)) (fun _ h9 => h9) rfl dX0_codePicture_7 ?_
  refine lv_iconst (v := (1 : Int32)) hx hb dX0_codePicture_10 (by decide) ?_
  refine W_st (st' := [.int (1 : Int32), .ref (ad b2), .int x3]) (by rw [va_some ho2]) ?_
  obtain ⟨hvc, hF⟩ := chk_some hF
  refine va_iald hx hb hK hP b2 1 (wld_i ct ad (xt G []) M hc2 hk2) rfl hvc dX0_codePicture_11 ?_
  obtain ⟨x4, ex4, hF⟩ := ltt_some hF
  refine lv_topi (fun zx4 ezx4 => ?_)
  obtain rfl : x4 = zx4 := ex4.trans ezx4.symm
  refine lv_imul hx hb dX0_codePicture_12 ?_
  obtain ⟨x5, ex5, hF⟩ := ltt_some hF
  refine lv_topi (fun zx5 ezx5 => ?_)
  obtain rfl : x5 = zx5 := ex5.trans ezx5.symm
  refine lv_istore_n (lv' := [(3, .int x5), (0, .ref (ad a)), (1, .int p0), (2, .int p1)]) hx hb dX0_codePicture_13 rfl hl (by decide) rfl (fun ls hl => ?_)
  refine lv_aload_n hx hb dX0_codePicture_14 rfl (lv_at hl 1 rfl) ?_
  refine va_get (D := D) (ci := 0) (v := va_re ad (M.2 a 2)) (C := RX0) (T := TX0) (N := 21) hx hb hts (mus hf_X0) hown hK hP a (wld_o ct ad (xt G []) M hc hk (by decide)) rfl 2 (by decide) (hts (.fieldLink RX0 29 "VideoSuite$Coder" "writer" "LVideoSuite$Writer;") (mu mw_815)) (fun _ h9 => h9) rfl dX0_codePicture_15 ?_
  obtain ⟨b6, ho6, hc6, hk6, hF⟩ := dr_some hF
  refine W_st (st' := [.ref (ad b6)]) (by rw [va_some ho6]) ?_
  refine va_get (D := D) (ci := 10) (v := .int (M.1 b6 1)) (C := RX10) (T := TX10) (N := 20) hx hb hts (mus hf_X10) hown hK hP b6 (wld_o ct ad (xt G []) M hc6 hk6 (by decide)) rfl 1 (by decide) (hts (.fieldLink RX0 125 "VideoSuite$Writer" "length" "I") (mu mw_738)) (fun _ h9 => h9) rfl dX0_codePicture_18 ?_
  obtain ⟨x7, ex7, hF⟩ := ltt_some hF
  refine lv_topi (fun zx7 ezx7 => ?_)
  obtain rfl : x7 = zx7 := ex7.trans ezx7.symm
  refine lv_istore (lv' := [(4, .int x7), (3, .int x5), (0, .ref (ad a)), (1, .int p0), (2, .int p1)]) hx hb dX0_codePicture_21 hl (by decide) rfl (fun ls hl => ?_)
  refine lv_aload_n hx hb dX0_codePicture_23 rfl (lv_at hl 2 rfl) ?_
  refine va_get (D := D) (ci := 0) (v := va_re ad (M.2 a 2)) (C := RX0) (T := TX0) (N := 21) hx hb hts (mus hf_X0) hown hK hP a (wld_o ct ad (xt G []) M hc hk (by decide)) rfl 2 (by decide) (hts (.fieldLink RX0 29 "VideoSuite$Coder" "writer" "LVideoSuite$Writer;") (mu mw_815)) (fun _ h9 => h9) rfl dX0_codePicture_24 ?_
  refine W_st (st' := [.ref (ad b6)]) (by rw [va_some ho6]) ?_
  refine va_get (D := D) (ci := 10) (v := .int (M.1 b6 2)) (C := RX10) (T := TX10) (N := 20) hx hb hts (mus hf_X10) hown hK hP b6 (wld_o ct ad (xt G []) M hc6 hk6 (by decide)) rfl 2 (by decide) (hts (.fieldLink RX0 128 "VideoSuite$Writer" "units" "I") (mu mw_741)) (fun _ h9 => h9) rfl dX0_codePicture_27 ?_
  obtain ⟨x8, ex8, hF⟩ := ltt_some hF
  refine lv_topi (fun zx8 ezx8 => ?_)
  obtain rfl : x8 = zx8 := ex8.trans ezx8.symm
  refine lv_istore (lv' := [(5, .int x8), (4, .int x7), (3, .int x5), (0, .ref (ad a)), (1, .int p0), (2, .int p1)]) hx hb dX0_codePicture_30 hl (by decide) rfl (fun ls hl => ?_)
  refine lv_aload_n hx hb dX0_codePicture_32 rfl (lv_at hl 3 rfl) ?_
  refine va_get (D := D) (ci := 0) (v := .int (M.1 a 14)) (C := RX0) (T := TX0) (N := 21) hx hb hts (mus hf_X0) hown hK hP a (wld_o ct ad (xt G []) M hc hk (by decide)) rfl 14 (by decide) (hts (.fieldLink RX0 113 "VideoSuite$Coder" "chance" "I") (mu mw_829)) (fun _ h9 => h9) rfl dX0_codePicture_33 ?_
  obtain ⟨x9, ex9, hF⟩ := ltt_some hF
  refine lv_topi (fun zx9 ezx9 => ?_)
  obtain rfl : x9 = zx9 := ex9.trans ezx9.symm
  refine lv_istore (lv' := [(6, .int x9), (5, .int x8), (4, .int x7), (3, .int x5), (0, .ref (ad a)), (1, .int p0), (2, .int p1)]) hx hb dX0_codePicture_36 hl (by decide) rfl (fun ls hl => ?_)
  refine lv_aload_n hx hb dX0_codePicture_38 rfl (lv_at hl 4 rfl) ?_
  refine va_get (D := D) (ci := 0) (v := va_re ad (M.2 a 1)) (C := RX0) (T := TX0) (N := 21) hx hb hts (mus hf_X0) hown hK hP a (wld_o ct ad (xt G []) M hc hk (by decide)) rfl 1 (by decide) (hts (.fieldLink RX0 23 "VideoSuite$Coder" "now" "[I") (mu mw_813)) (fun _ h9 => h9) rfl dX0_codePicture_39 ?_
  refine lv_iconst (v := (3 : Int32)) hx hb dX0_codePicture_42 (by decide) ?_
  refine lv_iload_n hx hb dX0_codePicture_43 rfl (lv_at hl 6 rfl) ?_
  refine lv_iconst (v := (2 : Int32)) hx hb dX0_codePicture_44 (by decide) ?_
  obtain ⟨y10, hy10, hF⟩ := bnd_some hF
  have J10 : ∀ (H : Heap) (locs : List Loc) (ls : Array Slot), va_P D classes (wld ct ad (xt G []) M) H → va_D A (wld ct ad (xt G []) M) → va_S A s.heap H locs → lv_has ls 12 [(6, .int x9), (5, .int x8), (4, .int x7), (3, .int x5), (0, .ref (ad a)), (1, .int p0), (2, .int p1)] → W p l e (headSpec wuX0_codePicture ({ frames := 8, cells := y.1.length, slots := wt y.1, locals := 241 })).room s m ([.ref (ad a), .int p0, .int p1] : List Value).toArray below meth c H locs ([] : NN).length (wt []) (MQ below (va_Qv (fun (u : Nat → Nat) => agr G.1 ad u) (fun u t => kE D ct u (xt G y.1) A y.2 t) A) ([.ref (ad a), .int p0, .int p1] : List Value).toArray s y.1.length (wt y.1) A) (F0 m 61 ls [.int y10, .int (3 : Int32), va_re ad (M.2 a 1)]) := by
    intro H locs ls hP hD hS hl
    refine lv_iadd hx hb dX0_codePicture_61 ?_
    obtain ⟨x11, ex11, hF⟩ := ltt_some hF
    refine lv_topi (fun zx11 ezx11 => ?_)
    obtain rfl : x11 = zx11 := ex11.trans ezx11.symm
    refine W_st (st' := [.int x11, .ref (ad b2)]) (by rw [va_some ho2]) ?_
    obtain ⟨hvc, hF⟩ := chk_some hF
    refine va_iald hx hb hK hP b2 1 (wld_i ct ad (xt G []) M hc2 hk2) rfl hvc dX0_codePicture_62 ?_
    obtain ⟨x12, ex12, hF⟩ := ltt_some hF
    refine lv_topi (fun zx12 ezx12 => ?_)
    obtain rfl : x12 = zx12 := ex12.trans ezx12.symm
    refine lv_istore (lv' := [(7, .int x12), (6, .int x9), (5, .int x8), (4, .int x7), (3, .int x5), (0, .ref (ad a)), (1, .int p0), (2, .int p1)]) hx hb dX0_codePicture_63 hl (by decide) rfl (fun ls hl => ?_)
    refine lv_iconst (v := (0 : Int32)) hx hb dX0_codePicture_65 (by decide) ?_
    refine lv_istore (lv' := [(8, .int (0 : Int32)), (7, .int x12), (6, .int x9), (5, .int x8), (4, .int x7), (3, .int x5), (0, .ref (ad a)), (1, .int p0), (2, .int p1)]) hx hb dX0_codePicture_66 hl (by decide) rfl (fun ls hl => ?_)
    refine lv_iconst (v := (0 : Int32)) hx hb dX0_codePicture_68 (by decide) ?_
    refine lv_istore (lv' := [(9, .int (0 : Int32)), (8, .int (0 : Int32)), (7, .int x12), (6, .int x9), (5, .int x8), (4, .int x7), (3, .int x5), (0, .ref (ad a)), (1, .int p0), (2, .int p1)]) hx hb dX0_codePicture_69 hl (by decide) rfl (fun ls hl => ?_)
    refine lv_aload_n hx hb dX0_codePicture_71 rfl (lv_at hl 7 rfl) ?_
    refine lv_iload_n hx hb dX0_codePicture_72 rfl (lv_at hl 8 rfl) ?_
    refine lv_iload_n hx hb dX0_codePicture_73 rfl (lv_at hl 9 rfl) ?_
    obtain ⟨y13, hy13, hF⟩ := bnd_some hF
    obtain ⟨w14, hF, ew14⟩ := app_some hF
    obtain ⟨L15, eL15, hF⟩ := ltt_some hF
    have hT15 : y.1 = ([] ++ y13.1) ++ w14.1 := by rw [hT, ew14]; simp only [List.append_assoc]
    have hf9 := wA_in hD hA9 hS
    refine va_callv (va_runV (As := [.int p0, .int p1]) (rest := []) ⟨hx, hb, hml, hown, hts⟩ (kX0_beginPicture l D ct ad Z (xt G []) M _ a p0 p1 y13 hc hk hy13) (cwV 2 hts gX0_codePicture_X0_beginPicture rfl rfl rfl (by decide +kernel) ⟨Nat.le_of_ble_eq_true rfl, Nat.le_of_ble_eq_true rfl⟩) ⟨fun a U g mk q => by obtain ⟨q0, q1, qP, qK, qD, qZ, qN⟩ := q; exact ⟨q0, q1, qP, va_K.moved (u := U) (U := U.calling g mk a) (Vm.Alike.refl U.vm) qK, qD, sF.moved (u := U) (U := U.calling g mk a) (Vm.Alike.refl U.vm) qZ, nF.same rfl qN⟩, va_recv hK hP (ci := 0) (q0 := a) rfl (wld_o ct ad (xt G []) M hc hk (by decide)), fun U hU hW => ⟨rfl, by rw [hU], by rw [hU]; exact hP, va_K.moved hW.alike hK, hD.weaken (fun _ _ _ _ => trivial), by rw [hU]; exact ((hZ.kept hS.2.1).narrow hf9).moved hW.alike, hN.warm hW⟩⟩ rfl rfl hl.1 rfl (lv_room (Nat.le_of_ble_eq_true rfl)) dX0_codePicture_74 (room_s hT15 hbl)) hS (fun q _ h => hf9 q h) hf9 (fun ad16 t H locs ht hvm hw hB hz1 hk1 hS => ?_)
    have hn17 := hw
    obtain ⟨hP, hK9, hD9⟩ := hB
    rw [ht] at hP
    have hD := hD9.weaken (fun _ q _ h => hf9 q.1 h)
    rw [xt_xt, ← eL15] at hP hD
    refine W_cs (k := L15.length) (n := wt L15) (by rw [eL15]; exact (len_s [] y13.1).symm) (by rw [eL15]; exact (wt_app [] y13.1).symm) ?_
    have hT : y.1 = L15 ++ w14.1 := by rw [hT15, eL15]
    have h2 : y.2 = w14.2 := by rw [h2, ew14]
    have hl := lv_sub (l' := [(9, .int (0 : Int32)), (8, .int (0 : Int32)), (7, .int x12), (6, .int x9), (5, .int x8), (4, .int x7), (3, .int x5), (0, .ref (ad a))]) hl [0, 1, 2, 3, 4, 5, 6, 7] rfl
    have e9 : ([(9, .int (0 : Int32)), (8, .int (0 : Int32)), (7, .int x12), (6, .int x9), (5, .int x8), (4, .int x7), (3, .int x5), (0, .ref (ad a))] : List (Nat × Value)) = [(9, .int (0 : Int32)), (8, .int (0 : Int32)), (7, .int x12), (6, .int x9), (5, .int x8), (4, .int x7), (3, .int x5), (0, .ref (ad16 a))] := (by first | rfl | simp only [hn17 a hc])
    rw [e9] at hl
    clear e9
    have hk : (xt G L15).2.1 a = 0 := by rw [eL15]; exact xt_k _ hc hk
    have hc : a < (xt G L15).1 := by rw [eL15]; exact xt_l _ hc
    have hk2 : (xt G L15).2.1 b2 = 13 := by rw [eL15]; exact xt_k _ hc2 hk2
    have hc2 : b2 < (xt G L15).1 := by rw [eL15]; exact xt_l _ hc2
    have hk6 : (xt G L15).2.1 b6 = 10 := by rw [eL15]; exact xt_k _ hc6 hk6
    have hc6 : b6 < (xt G L15).1 := by rw [eL15]; exact xt_l _ hc6
    have hag := agr_t (xt_ge _ _) hag hn17
    obtain ⟨y18, hy18, hF⟩ := bnd_some hF
    obtain ⟨w20, hF, ew20⟩ := app_some hF
    obtain ⟨L21, eL21, hF⟩ := ltt_some hF
    have hT21 : y.1 = (L15 ++ y18.1) ++ w20.1 := by rw [hT, ew20]; simp only [List.append_assoc]
    have hbl21 : L21.length ≤ y.1.length ∧ wt L21 ≤ wt y.1 := by rw [eL21]; exact room_d hT21 hbl
    have K18 : ∀ (ad22 : Nat → Nat), agr G.1 ad ad22 → ∀ (H : Heap) (locs : List Loc) (ls : Array Slot), va_P D classes (wld ct ad22 (xt G L21) y18.2.2.2.2) H → va_D A (wld ct ad22 (xt G L21) y18.2.2.2.2) → va_S A s.heap H locs → lv_has ls 12 [(9, .int y18.2.2.2.1), (8, .int y18.2.2.1), (7, .int y18.2.1), (0, .ref (ad22 a))] → W p l e (headSpec wuX0_codePicture ({ frames := 8, cells := y.1.length, slots := wt y.1, locals := 241 })).room s m ([.ref (ad a), .int p0, .int p1] : List Value).toArray below meth c H locs (L21 : NN).length (wt L21) (MQ below (va_Qv (fun (u : Nat → Nat) => agr G.1 ad u) (fun u t => kE D ct u (xt G y.1) A y.2 t) A) ([.ref (ad a), .int p0, .int p1] : List Value).toArray s y.1.length (wt y.1) A) (F0 m 354 ls []) := by
      intro ad22 hag H locs ls hP hD hS hl
      have hT : y.1 = L21 ++ w20.1 := by rw [hT21, eL21]
      have h2 : y.2 = w20.2 := by rw [h2, ew20]
      have hk : (xt G L21).2.1 a = 0 := by rw [eL21]; exact xt_k _ hc hk
      have hc : a < (xt G L21).1 := by rw [eL21]; exact xt_l _ hc
      have hk2 : (xt G L21).2.1 b2 = 13 := by rw [eL21]; exact xt_k _ hc2 hk2
      have hc2 : b2 < (xt G L21).1 := by rw [eL21]; exact xt_l _ hc2
      have hk6 : (xt G L21).2.1 b6 = 10 := by rw [eL21]; exact xt_k _ hc6 hk6
      have hc6 : b6 < (xt G L21).1 := by rw [eL21]; exact xt_l _ hc6
      refine lv_aload_n hx hb dX0_codePicture_354 rfl (lv_at hl 3 rfl) ?_
      refine lv_iload hx hb dX0_codePicture_355 (lv_at hl 1 rfl) ?_
      refine lv_iload hx hb dX0_codePicture_357 (lv_at hl 2 rfl) ?_
      refine lv_iload hx hb dX0_codePicture_359 (lv_at hl 0 rfl) ?_
      obtain ⟨y23, hy23, hF⟩ := bnd_some hF
      have hf9 := wA_in hD hA9 hS
      refine va_callv (va_runV (As := [.int y18.2.2.1, .int y18.2.1, .int y18.2.2.2.1]) (rest := []) ⟨hx, hb, hml, hown, hts⟩ (kX0_endPicture l D ct ad22 Z (xt G L21) y18.2.2.2.2 H.size a y18.2.2.1 y18.2.1 y18.2.2.2.1 y23 hc hk hy23) (cwV 3 hts gX0_codePicture_X0_endPicture rfl rfl rfl (by decide +kernel) ⟨Nat.le_of_ble_eq_true rfl, Nat.le_of_ble_eq_true rfl⟩) ⟨fun a U g mk q => by obtain ⟨q0, q1, qP, qK, qD, qZ, qN⟩ := q; exact ⟨q0, q1, qP, va_K.moved (u := U) (U := U.calling g mk a) (Vm.Alike.refl U.vm) qK, qD, sF.moved (u := U) (U := U.calling g mk a) (Vm.Alike.refl U.vm) qZ, nF.same rfl qN⟩, va_recv hK hP (ci := 0) (q0 := a) rfl (wld_o ct ad22 (xt G L21) y18.2.2.2.2 hc hk (by decide)), fun U hU hW => ⟨rfl, by rw [hU], by rw [hU]; exact hP, va_K.moved hW.alike hK, hD.weaken (fun _ _ _ _ => trivial), by rw [hU]; exact ((hZ.kept hS.2.1).narrow hf9).moved hW.alike, hN.warm hW⟩⟩ rfl rfl hl.1 rfl (lv_room (Nat.le_of_ble_eq_true rfl)) dX0_codePicture_361 (room_d hT hbl)) hS (fun q _ h => hf9 q h) hf9 (fun u t H locs ht hvm hw hB hz1 hk1 hS => ?_)
      obtain ⟨hP, hK9, hD9⟩ := hB
      rw [ht] at hP
      refine W_cs (k := (L21 : NN).length) (n := wt L21) rfl rfl ?_
      have hD := hD9.weaken (fun _ q _ h => hf9 q.1 h)
      obtain rfl := Option.some.inj hF
      have e1 : y.1 = L21 := by rw [hT]; exact List.append_nil _
      have e2 : y.2 = y23 := h2
      refine W.widen (k := y.1.length) (n := wt y.1) (Nat.le_of_eq (by rw [e1])) (Nat.le_of_eq (by rw [e1])) ?_
      exact W.vret hx hb hr (fun t ht hW => ⟨⟨ad22, rfl, hag, (by unfold kE; rw [e1, e2]; exact ⟨by rw [ht]; exact hP, va_K.moved hW.alike hK, hD⟩)⟩, hS.F ht⟩) hS.2.2 dX0_codePicture_364
    clear hF
    refine itrA_rule (fun (s19 : NN × Int32 × Int32 × Int32 × DD) (r25 : NN) => (∃ t, s19.1 = L15 ++ t) → L21 = s19.1 ++ r25 → ∀ (ad24 : Nat → Nat), agr G.1 ad ad24 → ∀ (H : Heap) (locs : List Loc) (ls : Array Slot), va_P D classes (wld ct ad24 (xt G s19.1) s19.2.2.2.2) H → va_D A (wld ct ad24 (xt G s19.1) s19.2.2.2.2) → va_S A s.heap H locs → lv_has ls 12 [(9, .int s19.2.2.2.1), (8, .int s19.2.2.1), (7, .int s19.2.1), (6, .int x9), (5, .int x8), (4, .int x7), (3, .int x5), (0, .ref (ad24 a))] → W p l e (headSpec wuX0_codePicture ({ frames := 8, cells := y.1.length, slots := wt y.1, locals := 241 })).room s m ([.ref (ad a), .int p0, .int p1] : List Value).toArray below meth c H locs (s19.1 : NN).length (wt s19.1) (MQ below (va_Qv (fun (u : Nat → Nat) => agr G.1 ad u) (fun u t => kE D ct u (xt G y.1) A y.2 t) A) ([.ref (ad a), .int p0, .int p1] : List Value).toArray s y.1.length (wt y.1) A) (F0 m 77 ls [])) ?_ _ _ _ hy18 ⟨[], (List.append_nil _).symm⟩ eL21 _ hag _ _ _ hP hD hS (lv_sub hl [0, 1, 2, 3, 4, 5, 6, 7] rfl)
    rintro s19 r25 ⟨z26, hF, ⟨t18, et18⟩, hwz26⟩ ⟨u18, eu18⟩ eq18 ad24 hag H locs ls hP hD hS hl
    try dsimp only at hF
    obtain ⟨L27, eL27⟩ : ∃ x, x = s19.1 ++ z26.1 := ⟨_, rfl⟩
    obtain ⟨w28, hw28⟩ : ∃ x, x = z26 := ⟨_, rfl⟩
    rw [← hw28] at hF
    have hbl : L27.length ≤ y.1.length ∧ wt L27 ≤ wt y.1 := room_d (show L21 = L27 ++ t18 by rw [eq18, et18, eL27]; simp only [List.append_assoc]) hbl21
    have hT : L27 = s19.1 ++ w28.1 := by rw [eL27, hw28]
    have h2 : z26.2 = w28.2 := by rw [hw28]
    have hk : (xt G s19.1).2.1 a = 0 := by rw [eu18]; exact xt_k _ hc hk
    have hc : a < (xt G s19.1).1 := by rw [eu18]; exact xt_l _ hc
    have hk2 : (xt G s19.1).2.1 b2 = 13 := by rw [eu18]; exact xt_k _ hc2 hk2
    have hc2 : b2 < (xt G s19.1).1 := by rw [eu18]; exact xt_l _ hc2
    have hk6 : (xt G s19.1).2.1 b6 = 10 := by rw [eu18]; exact xt_k _ hc6 hk6
    have hc6 : b6 < (xt G s19.1).1 := by rw [eu18]; exact xt_l _ hc6
    refine lv_iload hx hb dX0_codePicture_77 (lv_at hl 0 rfl) ?_
    refine lv_bipush (v := (9 : Int32)) hx hb dX0_codePicture_79 (by decide) ?_
    refine lv_icmp_ge (tgt := 354) hx hb dX0_codePicture_81 (by decide) (fun c29 => ?_) (fun c29 => ?_)
    · rw [if_pos c29] at hF
      obtain rfl := Option.some.inj hF
      have e1 : L27 = s19.1 := by rw [hT]; exact List.append_nil _
      have e2 : z26.2 = .inr ((s19.2.1, s19.2.2.1, s19.2.2.2.1, s19.2.2.2.2)) := h2
      rw [e2] at hwz26
      obtain ⟨hw1, hw2⟩ := hwz26
      have e8 : L21 = s19.1 := by rw [eq18, hw2, ← eL27, e1]
      rw [e8] at K18
      try rw [← hw1] at K18
      exact K18 _ hag _ _ _ hP hD hS (lv_sub hl [0, 1, 2, 7] rfl)
    · rw [if_neg c29] at hF
      obtain ⟨x30, ex30, hF⟩ := ltt_some hF
      refine lv_iinc (v := x30) (lv' := [(9, .int x30), (8, .int s19.2.2.1), (7, .int s19.2.1), (6, .int x9), (5, .int x8), (4, .int x7), (3, .int x5), (0, .ref (ad24 a))]) hx hb dX0_codePicture_84 hl (k := 0) rfl (by rw [ex30]; rfl) (by decide) rfl (fun ls hl => ?_)
      refine lv_aload_n hx hb dX0_codePicture_87 rfl (lv_at hl 7 rfl) ?_
      refine va_get (D := D) (ci := 0) (v := va_re ad24 (s19.2.2.2.2.2 a 2)) (C := RX0) (T := TX0) (N := 21) hx hb hts (mus hf_X0) hown hK hP a (wld_o ct ad24 (xt G s19.1) s19.2.2.2.2 hc hk (by decide)) rfl 2 (by decide) (hts (.fieldLink RX0 29 "VideoSuite$Coder" "writer" "LVideoSuite$Writer;") (mu mw_815)) (fun _ h9 => h9) rfl dX0_codePicture_88 ?_
      refine lv_iload hx hb dX0_codePicture_91 (lv_at hl 5 rfl) ?_
      obtain ⟨b31, ho31, hc31, hk31, hF⟩ := dr_some hF
      refine W_st (st' := [.int x7, .ref (ad24 b31)]) (by rw [va_some ho31]) ?_
      refine va_put (D := D) (ci := 10) (v := .int x7) (ty := .int) (C := RX10) (T := TX10) (N := 20) hx hb hts (mus hf_X10) tyX10 tyX10_ok nmX10 hown hK hP hD hS b31 (wld_o ct ad24 (xt G s19.1) s19.2.2.2.2 hc31 hk31 (by decide)) rfl 1 (by decide) (hts (.fieldLink RX0 125 "VideoSuite$Writer" "length" "I") (mu mw_738)) (fun _ h9 => h9) rfl (by decide +kernel) rfl rfl (Nat.le_of_ble_eq_true rfl) dX0_codePicture_93 (fun H locs hP hD hS => ?_)
      obtain ⟨M32, eM32, hF⟩ := ltt_some hF
      rw [set_oI ct ad24 (xt G s19.1) s19.2.2.2.2 hc31 hk31 (by decide) (by rfl), ← eM32] at hP hD
      refine lv_aload_n hx hb dX0_codePicture_96 rfl (lv_at hl 7 rfl) ?_
      refine va_get (D := D) (ci := 0) (v := va_re ad24 (M32.2 a 2)) (C := RX0) (T := TX0) (N := 21) hx hb hts (mus hf_X0) hown hK hP a (wld_o ct ad24 (xt G s19.1) M32 hc hk (by decide)) rfl 2 (by decide) (hts (.fieldLink RX0 29 "VideoSuite$Coder" "writer" "LVideoSuite$Writer;") (mu mw_815)) (fun _ h9 => h9) rfl dX0_codePicture_97 ?_
      refine lv_iload hx hb dX0_codePicture_100 (lv_at hl 4 rfl) ?_
      obtain ⟨b33, ho33, hc33, hk33, hF⟩ := dr_some hF
      refine W_st (st' := [.int x8, .ref (ad24 b33)]) (by rw [va_some ho33]) ?_
      refine va_put (D := D) (ci := 10) (v := .int x8) (ty := .int) (C := RX10) (T := TX10) (N := 20) hx hb hts (mus hf_X10) tyX10 tyX10_ok nmX10 hown hK hP hD hS b33 (wld_o ct ad24 (xt G s19.1) M32 hc33 hk33 (by decide)) rfl 2 (by decide) (hts (.fieldLink RX0 128 "VideoSuite$Writer" "units" "I") (mu mw_741)) (fun _ h9 => h9) rfl (by decide +kernel) rfl rfl (Nat.le_of_ble_eq_true rfl) dX0_codePicture_102 (fun H locs hP hD hS => ?_)
      obtain ⟨M34, eM34, hF⟩ := ltt_some hF
      rw [set_oI ct ad24 (xt G s19.1) M32 hc33 hk33 (by decide) (by rfl), ← eM34] at hP hD
      refine lv_aload_n hx hb dX0_codePicture_105 rfl (lv_at hl 7 rfl) ?_
      refine lv_iload hx hb dX0_codePicture_106 (lv_at hl 3 rfl) ?_
      refine va_put (D := D) (ci := 0) (v := .int x9) (ty := .int) (C := RX0) (T := TX0) (N := 21) hx hb hts (mus hf_X0) tyX0 tyX0_ok nmX0 hown hK hP hD hS a (wld_o ct ad24 (xt G s19.1) M34 hc hk (by decide)) rfl 14 (by decide) (hts (.fieldLink RX0 113 "VideoSuite$Coder" "chance" "I") (mu mw_829)) (fun _ h9 => h9) rfl (by decide +kernel) rfl rfl (Nat.le_of_ble_eq_true rfl) dX0_codePicture_108 (fun H locs hP hD hS => ?_)
      obtain ⟨M35, eM35, hF⟩ := ltt_some hF
      rw [set_oI ct ad24 (xt G s19.1) M34 hc hk (by decide) (by rfl), ← eM35] at hP hD
      refine lv_aload_n hx hb dX0_codePicture_111 rfl (lv_at hl 7 rfl) ?_
      refine lv_iload hx hb dX0_codePicture_112 (lv_at hl 2 rfl) ?_
      obtain ⟨y36, hy36, hF⟩ := bnd_some hF
      have hf9 := wA_in hD hA9 hS
      refine va_callv (va_runV (As := [.int s19.2.1]) (rest := []) ⟨hx, hb, hml, hown, hts⟩ (kX0_beginTry l D ct ad24 Z (xt G s19.1) M35 H.size a s19.2.1 y36 hc hk hy36) (cwV 1 hts gX0_codePicture_X0_beginTry rfl rfl rfl (by decide +kernel) ⟨Nat.le_of_ble_eq_true rfl, Nat.le_of_ble_eq_true rfl⟩) ⟨fun a U g mk q => by obtain ⟨q0, q1, qP, qK, qD, qZ, qN⟩ := q; exact ⟨q0, q1, qP, va_K.moved (u := U) (U := U.calling g mk a) (Vm.Alike.refl U.vm) qK, qD, sF.moved (u := U) (U := U.calling g mk a) (Vm.Alike.refl U.vm) qZ, nF.same rfl qN⟩, va_recv hK hP (ci := 0) (q0 := a) rfl (wld_o ct ad24 (xt G s19.1) M35 hc hk (by decide)), fun U hU hW => ⟨rfl, by rw [hU], by rw [hU]; exact hP, va_K.moved hW.alike hK, hD.weaken (fun _ _ _ _ => trivial), by rw [hU]; exact ((hZ.kept hS.2.1).narrow hf9).moved hW.alike, hN.warm hW⟩⟩ rfl rfl hl.1 rfl (lv_room (Nat.le_of_ble_eq_true rfl)) dX0_codePicture_114 (room_d hT hbl)) hS (fun q _ h => hf9 q h) hf9 (fun u t H locs ht hvm hw hB hz1 hk1 hS => ?_)
      obtain ⟨hP, hK9, hD9⟩ := hB
      rw [ht] at hP
      refine W_cs (k := (s19.1 : NN).length) (n := wt s19.1) rfl rfl ?_
      have hD := hD9.weaken (fun _ q _ h => hf9 q.1 h)
      refine lv_iconst (v := (0 : Int32)) hx hb dX0_codePicture_117 (by decide) ?_
      refine lv_istore (lv' := [(10, .int (0 : Int32)), (9, .int x30), (8, .int s19.2.2.1), (7, .int s19.2.1), (6, .int x9), (5, .int x8), (4, .int x7), (3, .int x5), (0, .ref (ad24 a))]) hx hb dX0_codePicture_118 hl (by decide) rfl (fun ls hl => ?_)
      obtain ⟨y37, hy37, hF⟩ := bnd_some hF
      obtain ⟨w39, hF, ew39⟩ := app_some hF
      obtain ⟨L40, eL40, hF⟩ := ltt_some hF
      have hT40 : L27 = (s19.1 ++ y37.1) ++ w39.1 := by rw [hT, ew39]; simp only [List.append_assoc]
      have hbl40 : L40.length ≤ y.1.length ∧ wt L40 ≤ wt y.1 := by rw [eL40]; exact room_d hT40 hbl
      have K37 : ∀ (ad41 : Nat → Nat), agr G.1 ad ad41 → ∀ (H : Heap) (locs : List Loc) (ls : Array Slot), va_P D classes (wld ct ad41 (xt G L40) y37.2.2) H → va_D A (wld ct ad41 (xt G L40) y37.2.2) → va_S A s.heap H locs → lv_has ls 12 [(9, .int x30), (7, .int s19.2.1), (6, .int x9), (5, .int x8), (4, .int x7), (3, .int x5), (0, .ref (ad41 a))] → W p l e (headSpec wuX0_codePicture ({ frames := 8, cells := y.1.length, slots := wt y.1, locals := 241 })).room s m ([.ref (ad a), .int p0, .int p1] : List Value).toArray below meth c H locs (L40 : NN).length (wt L40) (MQ below (va_Qv (fun (u : Nat → Nat) => agr G.1 ad u) (fun u t => kE D ct u (xt G y.1) A y.2 t) A) ([.ref (ad a), .int p0, .int p1] : List Value).toArray s y.1.length (wt y.1) A) (F0 m 264 ls []) := by
        intro ad41 hag H locs ls hP hD hS hl
        have hT : L27 = L40 ++ w39.1 := by rw [hT40, eL40]
        have h2 : z26.2 = w39.2 := by rw [h2, ew39]
        have hk : (xt G L40).2.1 a = 0 := by rw [eL40]; exact xt_k _ hc hk
        have hc : a < (xt G L40).1 := by rw [eL40]; exact xt_l _ hc
        have hk2 : (xt G L40).2.1 b2 = 13 := by rw [eL40]; exact xt_k _ hc2 hk2
        have hc2 : b2 < (xt G L40).1 := by rw [eL40]; exact xt_l _ hc2
        have hk6 : (xt G L40).2.1 b6 = 10 := by rw [eL40]; exact xt_k _ hc6 hk6
        have hc6 : b6 < (xt G L40).1 := by rw [eL40]; exact xt_l _ hc6
        have hk31 : (xt G L40).2.1 b31 = 10 := by rw [eL40]; exact xt_k _ hc31 hk31
        have hc31 : b31 < (xt G L40).1 := by rw [eL40]; exact xt_l _ hc31
        have hk33 : (xt G L40).2.1 b33 = 10 := by rw [eL40]; exact xt_k _ hc33 hk33
        have hc33 : b33 < (xt G L40).1 := by rw [eL40]; exact xt_l _ hc33
        refine lv_bipush (v := (8 : Int32)) hx hb dX0_codePicture_264 (by decide) ?_
        refine lv_aload_n hx hb dX0_codePicture_266 rfl (lv_at hl 6 rfl) ?_
        refine va_get (D := D) (ci := 0) (v := va_re ad41 (y37.2.2.2 a 2)) (C := RX0) (T := TX0) (N := 21) hx hb hts (mus hf_X0) hown hK hP a (wld_o ct ad41 (xt G L40) y37.2.2 hc hk (by decide)) rfl 2 (by decide) (hts (.fieldLink RX0 29 "VideoSuite$Coder" "writer" "LVideoSuite$Writer;") (mu mw_815)) (fun _ h9 => h9) rfl dX0_codePicture_267 ?_
        obtain ⟨b42, ho42, hc42, hk42, hF⟩ := dr_some hF
        refine W_st (st' := [.ref (ad41 b42), .int (8 : Int32)]) (by rw [va_some ho42]) ?_
        refine va_get (D := D) (ci := 10) (v := .int (y37.2.2.1 b42 1)) (C := RX10) (T := TX10) (N := 20) hx hb hts (mus hf_X10) hown hK hP b42 (wld_o ct ad41 (xt G L40) y37.2.2 hc42 hk42 (by decide)) rfl 1 (by decide) (hts (.fieldLink RX0 125 "VideoSuite$Writer" "length" "I") (mu mw_738)) (fun _ h9 => h9) rfl dX0_codePicture_270 ?_
        obtain ⟨x43, ex43, hF⟩ := ltt_some hF
        refine lv_topi (fun zx43 ezx43 => ?_)
        obtain rfl : x43 = zx43 := ex43.trans ezx43.symm
        refine lv_iload hx hb dX0_codePicture_273 (lv_at hl 4 rfl) ?_
        refine lv_isub hx hb dX0_codePicture_275 ?_
        obtain ⟨x44, ex44, hF⟩ := ltt_some hF
        refine lv_topi (fun zx44 ezx44 => ?_)
        obtain rfl : x44 = zx44 := ex44.trans ezx44.symm
        refine lv_iconst (v := (4 : Int32)) hx hb dX0_codePicture_276 (by decide) ?_
        refine lv_aload_n hx hb dX0_codePicture_277 rfl (lv_at hl 6 rfl) ?_
        refine va_get (D := D) (ci := 0) (v := va_re ad41 (y37.2.2.2 a 2)) (C := RX0) (T := TX0) (N := 21) hx hb hts (mus hf_X0) hown hK hP a (wld_o ct ad41 (xt G L40) y37.2.2 hc hk (by decide)) rfl 2 (by decide) (hts (.fieldLink RX0 29 "VideoSuite$Coder" "writer" "LVideoSuite$Writer;") (mu mw_815)) (fun _ h9 => h9) rfl dX0_codePicture_278 ?_
        refine W_st (st' := [.ref (ad41 b42), .int (4 : Int32), .int x44, .int (8 : Int32)]) (by rw [va_some ho42]) ?_
        refine va_get (D := D) (ci := 10) (v := .int (y37.2.2.1 b42 2)) (C := RX10) (T := TX10) (N := 20) hx hb hts (mus hf_X10) hown hK hP b42 (wld_o ct ad41 (xt G L40) y37.2.2 hc42 hk42 (by decide)) rfl 2 (by decide) (hts (.fieldLink RX0 128 "VideoSuite$Writer" "units" "I") (mu mw_741)) (fun _ h9 => h9) rfl dX0_codePicture_281 ?_
        obtain ⟨x45, ex45, hF⟩ := ltt_some hF
        refine lv_topi (fun zx45 ezx45 => ?_)
        obtain rfl : x45 = zx45 := ex45.trans ezx45.symm
        refine lv_iload hx hb dX0_codePicture_284 (lv_at hl 3 rfl) ?_
        refine lv_isub hx hb dX0_codePicture_286 ?_
        obtain ⟨x46, ex46, hF⟩ := ltt_some hF
        refine lv_topi (fun zx46 ezx46 => ?_)
        obtain rfl : x46 = zx46 := ex46.trans ezx46.symm
        refine lv_imul hx hb dX0_codePicture_287 ?_
        obtain ⟨x47, ex47, hF⟩ := ltt_some hF
        refine lv_topi (fun zx47 ezx47 => ?_)
        obtain rfl : x47 = zx47 := ex47.trans ezx47.symm
        refine lv_isub hx hb dX0_codePicture_288 ?_
        obtain ⟨x48, ex48, hF⟩ := ltt_some hF
        refine lv_topi (fun zx48 ezx48 => ?_)
        obtain rfl : x48 = zx48 := ex48.trans ezx48.symm
        refine lv_imul hx hb dX0_codePicture_289 ?_
        obtain ⟨x49, ex49, hF⟩ := ltt_some hF
        refine lv_topi (fun zx49 ezx49 => ?_)
        obtain rfl : x49 = zx49 := ex49.trans ezx49.symm
        refine lv_istore (lv' := [(8, .int x49), (9, .int x30), (7, .int s19.2.1), (6, .int x9), (5, .int x8), (4, .int x7), (3, .int x5), (0, .ref (ad41 a))]) hx hb dX0_codePicture_290 hl (by decide) rfl (fun ls hl => ?_)
        refine lv_aload_n hx hb dX0_codePicture_292 rfl (lv_at hl 7 rfl) ?_
        refine va_get (D := D) (ci := 0) (v := va_re ad41 (y37.2.2.2 a 1)) (C := RX0) (T := TX0) (N := 21) hx hb hts (mus hf_X0) hown hK hP a (wld_o ct ad41 (xt G L40) y37.2.2 hc hk (by decide)) rfl 1 (by decide) (hts (.fieldLink RX0 23 "VideoSuite$Coder" "now" "[I") (mu mw_813)) (fun _ h9 => h9) rfl dX0_codePicture_293 ?_
        refine lv_bipush (v := (16 : Int32)) hx hb dX0_codePicture_296 (by decide) ?_
        obtain ⟨b50, ho50, hc50, hk50, hF⟩ := dr_some hF
        refine W_st (st' := [.int (16 : Int32), .ref (ad41 b50)]) (by rw [va_some ho50]) ?_
        obtain ⟨hvc, hF⟩ := chk_some hF
        refine va_iald hx hb hK hP b50 1 (wld_i ct ad41 (xt G L40) y37.2.2 hc50 hk50) rfl hvc dX0_codePicture_298 ?_
        obtain ⟨x51, ex51, hF⟩ := ltt_some hF
        refine lv_topi (fun zx51 ezx51 => ?_)
        obtain rfl : x51 = zx51 := ex51.trans ezx51.symm
        refine lv_if_eq (tgt := 354) hx hb dX0_codePicture_299 (by decide) (fun c52 => ?_) (fun c52 => ?_)
        · rw [if_pos c52] at hF
          obtain rfl := Option.some.inj hF
          have e1 : L27 = L40 := by rw [hT]; exact List.append_nil _
          have e2 : z26.2 = .inr ((s19.2.1, x49, x30, y37.2.2)) := h2
          rw [e2] at hwz26
          obtain ⟨hw1, hw2⟩ := hwz26
          have e8 : L21 = L40 := by rw [eq18, hw2, ← eL27, e1]
          rw [e8] at K18
          try rw [← hw1] at K18
          exact K18 _ hag _ _ _ hP hD hS (lv_sub hl [1, 0, 2, 7] rfl)
        · rw [if_neg c52] at hF
          refine lv_iload hx hb dX0_codePicture_302 (lv_at hl 0 rfl) ?_
          refine lv_aload_n hx hb dX0_codePicture_304 rfl (lv_at hl 7 rfl) ?_
          refine va_get (D := D) (ci := 0) (v := va_re ad41 (y37.2.2.2 a 1)) (C := RX0) (T := TX0) (N := 21) hx hb hts (mus hf_X0) hown hK hP a (wld_o ct ad41 (xt G L40) y37.2.2 hc hk (by decide)) rfl 1 (by decide) (hts (.fieldLink RX0 23 "VideoSuite$Coder" "now" "[I") (mu mw_813)) (fun _ h9 => h9) rfl dX0_codePicture_305 ?_
          refine lv_bipush (v := (16 : Int32)) hx hb dX0_codePicture_308 (by decide) ?_
          refine W_st (st' := [.int (16 : Int32), .ref (ad41 b50), .int x49]) (by rw [va_some ho50]) ?_
          obtain ⟨hvc, hF⟩ := chk_some hF
          refine va_iald hx hb hK hP b50 1 (wld_i ct ad41 (xt G L40) y37.2.2 hc50 hk50) rfl hvc dX0_codePicture_310 ?_
          obtain ⟨x53, ex53, hF⟩ := ltt_some hF
          refine lv_topi (fun zx53 ezx53 => ?_)
          obtain rfl : x53 = zx53 := ex53.trans ezx53.symm
          refine lv_aload_n hx hb dX0_codePicture_311 rfl (lv_at hl 7 rfl) ?_
          refine va_get (D := D) (ci := 0) (v := .int (y37.2.2.1 a 15)) (C := RX0) (T := TX0) (N := 21) hx hb hts (mus hf_X0) hown hK hP a (wld_o ct ad41 (xt G L40) y37.2.2 hc hk (by decide)) rfl 15 (by decide) (hts (.fieldLink RX0 116 "VideoSuite$Coder" "reserve" "I") (mu mw_831)) (fun _ h9 => h9) rfl dX0_codePicture_312 ?_
          obtain ⟨x54, ex54, hF⟩ := ltt_some hF
          refine lv_topi (fun zx54 ezx54 => ?_)
          obtain rfl : x54 = zx54 := ex54.trans ezx54.symm
          refine lv_iadd hx hb dX0_codePicture_315 ?_
          obtain ⟨x55, ex55, hF⟩ := ltt_some hF
          refine lv_topi (fun zx55 ezx55 => ?_)
          obtain rfl : x55 = zx55 := ex55.trans ezx55.symm
          refine lv_icmp_le (tgt := 354) hx hb dX0_codePicture_316 (by decide) (fun c56 => ?_) (fun c56 => ?_)
          · rw [if_pos c56] at hF
            obtain rfl := Option.some.inj hF
            have e1 : L27 = L40 := by rw [hT]; exact List.append_nil _
            have e2 : z26.2 = .inr ((s19.2.1, x49, x30, y37.2.2)) := h2
            rw [e2] at hwz26
            obtain ⟨hw1, hw2⟩ := hwz26
            have e8 : L21 = L40 := by rw [eq18, hw2, ← eL27, e1]
            rw [e8] at K18
            try rw [← hw1] at K18
            exact K18 _ hag _ _ _ hP hD hS (lv_sub hl [1, 0, 2, 7] rfl)
          · rw [if_neg c56] at hF
            refine lv_iload hx hb dX0_codePicture_319 (lv_at hl 2 rfl) ?_
            refine lv_bipush (v := (51 : Int32)) hx hb dX0_codePicture_321 (by decide) ?_
            refine lv_icmp_ne (tgt := 329) hx hb dX0_codePicture_323 (by decide) (fun c57 => ?_) (fun c57 => ?_)
            · rw [if_neg c57] at hF
              refine lv_iload hx hb dX0_codePicture_329 (lv_at hl 2 rfl) ?_
              refine lv_bipush (v := (6 : Int32)) hx hb dX0_codePicture_331 (by decide) ?_
              refine lv_iadd hx hb dX0_codePicture_333 ?_
              obtain ⟨x58, ex58, hF⟩ := ltt_some hF
              refine lv_topi (fun zx58 ezx58 => ?_)
              obtain rfl : x58 = zx58 := ex58.trans ezx58.symm
              refine lv_bipush (v := (51 : Int32)) hx hb dX0_codePicture_334 (by decide) ?_
              obtain ⟨y59, hy59, hF⟩ := bnd_some hF
              have J59 : ∀ (H : Heap) (locs : List Loc) (ls : Array Slot), va_P D classes (wld ct ad41 (xt G L40) y37.2.2) H → va_D A (wld ct ad41 (xt G L40) y37.2.2) → va_S A s.heap H locs → lv_has ls 12 [(8, .int x49), (9, .int x30), (7, .int s19.2.1), (6, .int x9), (5, .int x8), (4, .int x7), (3, .int x5), (0, .ref (ad41 a))] → W p l e (headSpec wuX0_codePicture ({ frames := 8, cells := y.1.length, slots := wt y.1, locals := 241 })).room s m ([.ref (ad a), .int p0, .int p1] : List Value).toArray below meth c H locs (L40 : NN).length (wt L40) (MQ below (va_Qv (fun (u : Nat → Nat) => agr G.1 ad u) (fun u t => kE D ct u (xt G y.1) A y.2 t) A) ([.ref (ad a), .int p0, .int p1] : List Value).toArray s y.1.length (wt y.1) A) (F0 m 349 ls [.int y59]) := by
                intro H locs ls hP hD hS hl
                refine lv_istore (lv' := [(7, .int y59), (8, .int x49), (9, .int x30), (6, .int x9), (5, .int x8), (4, .int x7), (3, .int x5), (0, .ref (ad41 a))]) hx hb dX0_codePicture_349 hl (by decide) rfl (fun ls hl => ?_)
                refine lv_goto (tgt := 77) hx hb dX0_codePicture_351 (by decide) ?_
                obtain rfl := Option.some.inj hF
                have e1 : L27 = L40 := by rw [hT]; exact List.append_nil _
                have e2 : z26.2 = .inl (L40, (y59, x49, x30, y37.2.2)) := h2
                rw [e2] at hwz26
                obtain ⟨r2, er2, hwz26⟩ := hwz26
                exact hwz26 ⟨u18 ++ z26.1, by show L40 = _; rw [← e1, eL27, eu18]; simp only [List.append_assoc]⟩ (by show L21 = L40 ++ r2; rw [eq18, er2, ← e1, eL27]; simp only [List.append_assoc]) _ hag _ _ _ hP hD hS (lv_sub hl [2, 1, 0, 3, 4, 5, 6, 7] rfl)
              clear hF
              have hF := hy59
              clear hy59
              refine lv_icmp_le (tgt := 344) hx hb dX0_codePicture_336 (by decide) (fun c60 => ?_) (fun c60 => ?_)
              · rw [if_pos c60] at hF
                refine lv_iload hx hb dX0_codePicture_344 (lv_at hl 2 rfl) ?_
                refine lv_bipush (v := (6 : Int32)) hx hb dX0_codePicture_346 (by decide) ?_
                refine lv_iadd hx hb dX0_codePicture_348 ?_
                obtain ⟨x61, ex61, hF⟩ := ltt_some hF
                refine lv_topi (fun zx61 ezx61 => ?_)
                obtain rfl : x61 = zx61 := ex61.trans ezx61.symm
                obtain rfl := Option.some.inj hF
                exact J59 _ _ _ hP hD hS (lv_sub hl [0, 1, 2, 3, 4, 5, 6, 7] rfl)
              · rw [if_neg c60] at hF
                refine lv_bipush (v := (51 : Int32)) hx hb dX0_codePicture_339 (by decide) ?_
                refine lv_goto (tgt := 349) hx hb dX0_codePicture_341 (by decide) ?_
                obtain rfl := Option.some.inj hF
                exact J59 _ _ _ hP hD hS (lv_sub hl [0, 1, 2, 3, 4, 5, 6, 7] rfl)
            · rw [if_pos c57] at hF
              refine lv_goto (tgt := 354) hx hb dX0_codePicture_326 (by decide) ?_
              obtain rfl := Option.some.inj hF
              have e1 : L27 = L40 := by rw [hT]; exact List.append_nil _
              have e2 : z26.2 = .inr ((s19.2.1, x49, x30, y37.2.2)) := h2
              rw [e2] at hwz26
              obtain ⟨hw1, hw2⟩ := hwz26
              have e8 : L21 = L40 := by rw [eq18, hw2, ← eL27, e1]
              rw [e8] at K18
              try rw [← hw1] at K18
              exact K18 _ hag _ _ _ hP hD hS (lv_sub hl [1, 0, 2, 7] rfl)
      clear hF
      refine itrA_rule (fun (s38 : NN × Int32 × DD) (r63 : NN) => (∃ t, s38.1 = s19.1 ++ t) → L40 = s38.1 ++ r63 → ∀ (ad62 : Nat → Nat), agr G.1 ad ad62 → ∀ (H : Heap) (locs : List Loc) (ls : Array Slot), va_P D classes (wld ct ad62 (xt G s38.1) s38.2.2) H → va_D A (wld ct ad62 (xt G s38.1) s38.2.2) → va_S A s.heap H locs → lv_has ls 12 [(10, .int s38.2.1), (9, .int x30), (7, .int s19.2.1), (6, .int x9), (5, .int x8), (4, .int x7), (3, .int x5), (0, .ref (ad62 a))] → W p l e (headSpec wuX0_codePicture ({ frames := 8, cells := y.1.length, slots := wt y.1, locals := 241 })).room s m ([.ref (ad a), .int p0, .int p1] : List Value).toArray below meth c H locs (s38.1 : NN).length (wt s38.1) (MQ below (va_Qv (fun (u : Nat → Nat) => agr G.1 ad u) (fun u t => kE D ct u (xt G y.1) A y.2 t) A) ([.ref (ad a), .int p0, .int p1] : List Value).toArray s y.1.length (wt y.1) A) (F0 m 120 ls [])) ?_ _ _ _ hy37 ⟨[], (List.append_nil _).symm⟩ eL40 _ hag _ _ _ hP hD hS (lv_sub hl [0, 1, 3, 4, 5, 6, 7, 8] rfl)
      rintro s38 r63 ⟨z64, hF, ⟨t37, et37⟩, hwz64⟩ ⟨u37, eu37⟩ eq37 ad62 hag H locs ls hP hD hS hl
      try dsimp only at hF
      obtain ⟨L65, eL65⟩ : ∃ x, x = s38.1 ++ z64.1 := ⟨_, rfl⟩
      obtain ⟨w66, hw66⟩ : ∃ x, x = z64 := ⟨_, rfl⟩
      rw [← hw66] at hF
      have hbl : L65.length ≤ y.1.length ∧ wt L65 ≤ wt y.1 := room_d (show L40 = L65 ++ t37 by rw [eq37, et37, eL65]; simp only [List.append_assoc]) hbl40
      have hT : L65 = s38.1 ++ w66.1 := by rw [eL65, hw66]
      have h2 : z64.2 = w66.2 := by rw [hw66]
      have hk : (xt G s38.1).2.1 a = 0 := by rw [eu37]; exact xt_k _ hc hk
      have hc : a < (xt G s38.1).1 := by rw [eu37]; exact xt_l _ hc
      have hk2 : (xt G s38.1).2.1 b2 = 13 := by rw [eu37]; exact xt_k _ hc2 hk2
      have hc2 : b2 < (xt G s38.1).1 := by rw [eu37]; exact xt_l _ hc2
      have hk6 : (xt G s38.1).2.1 b6 = 10 := by rw [eu37]; exact xt_k _ hc6 hk6
      have hc6 : b6 < (xt G s38.1).1 := by rw [eu37]; exact xt_l _ hc6
      have hk31 : (xt G s38.1).2.1 b31 = 10 := by rw [eu37]; exact xt_k _ hc31 hk31
      have hc31 : b31 < (xt G s38.1).1 := by rw [eu37]; exact xt_l _ hc31
      have hk33 : (xt G s38.1).2.1 b33 = 10 := by rw [eu37]; exact xt_k _ hc33 hk33
      have hc33 : b33 < (xt G s38.1).1 := by rw [eu37]; exact xt_l _ hc33
      refine lv_iload hx hb dX0_codePicture_120 (lv_at hl 0 rfl) ?_
      refine lv_iload_n hx hb dX0_codePicture_122 rfl (lv_at hl 6 rfl) ?_
      refine lv_icmp_ge (tgt := 264) hx hb dX0_codePicture_123 (by decide) (fun c67 => ?_) (fun c67 => ?_)
      · rw [if_pos c67] at hF
        obtain rfl := Option.some.inj hF
        have e1 : L65 = s38.1 := by rw [hT]; exact List.append_nil _
        have e2 : z64.2 = .inr ((s38.2.1, s38.2.2)) := h2
        rw [e2] at hwz64
        obtain ⟨hw1, hw2⟩ := hwz64
        have e8 : L40 = s38.1 := by rw [eq37, hw2, ← eL65, e1]
        rw [e8] at K37
        try rw [← hw1] at K37
        exact K37 _ hag _ _ _ hP hD hS (lv_sub hl [1, 2, 3, 4, 5, 6, 7] rfl)
      · rw [if_neg c67] at hF
        refine lv_aload_n hx hb dX0_codePicture_126 rfl (lv_at hl 7 rfl) ?_
        refine lv_iload hx hb dX0_codePicture_127 (lv_at hl 0 rfl) ?_
        obtain ⟨y68, hy68, hF⟩ := bnd_some hF
        have hf9 := wA_in hD hA9 hS
        refine va_calli (va_runV (As := [.int s38.2.1]) (rest := []) ⟨hx, hb, hml, hown, hts⟩ (kX0_isSliceEdge l D ct ad62 Z (xt G s38.1) s38.2.2 H.size a s38.2.1 y68 hc hk hy68) (cwV 1 hts gX0_codePicture_X0_isSliceEdge rfl rfl rfl (by decide +kernel) ⟨Nat.le_of_ble_eq_true rfl, Nat.le_of_ble_eq_true rfl⟩) ⟨fun a U g mk q => by obtain ⟨q0, q1, qP, qK, qD, qZ, qN⟩ := q; exact ⟨q0, q1, qP, va_K.moved (u := U) (U := U.calling g mk a) (Vm.Alike.refl U.vm) qK, qD, sF.moved (u := U) (U := U.calling g mk a) (Vm.Alike.refl U.vm) qZ, nF.same rfl qN⟩, va_recv hK hP (ci := 0) (q0 := a) rfl (wld_o ct ad62 (xt G s38.1) s38.2.2 hc hk (by decide)), fun U hU hW => ⟨rfl, by rw [hU], by rw [hU]; exact hP, va_K.moved hW.alike hK, hD.weaken (fun _ _ _ _ => trivial), by rw [hU]; exact ((hZ.kept hS.2.1).narrow hf9).moved hW.alike, hN.warm hW⟩⟩ rfl rfl hl.1 rfl (lv_room (Nat.le_of_ble_eq_true rfl)) dX0_codePicture_129 (room_d hT hbl)) hS (fun q _ h => hf9 q h) hf9 (fun r u t H locs ht hvm hw hB hz1 hk1 hS => ?_)
        obtain ⟨hP, hK9, hD9⟩ := hB
        rw [ht] at hP
        try dsimp only at hw
        subst hw
        refine W_cs (k := (s38.1 : NN).length) (n := wt s38.1) rfl rfl ?_
        have hD := hD9.weaken (fun _ q _ h => hf9 q.1 h)
        obtain ⟨y69, hy69, hF⟩ := bnd_some hF
        obtain ⟨w70, hF, ew70⟩ := app_some hF
        obtain ⟨L71, eL71, hF⟩ := ltt_some hF
        have hT71 : L65 = (s38.1 ++ y69.1) ++ w70.1 := by rw [hT, ew70]; simp only [List.append_assoc]
        have hbl71 : L71.length ≤ y.1.length ∧ wt L71 ≤ wt y.1 := by rw [eL71]; exact room_d hT71 hbl
        have J69 : ∀ (ad72 : Nat → Nat), agr G.1 ad ad72 → ∀ (H : Heap) (locs : List Loc) (ls : Array Slot), va_P D classes (wld ct ad72 (xt G L71) y69.2) H → va_D A (wld ct ad72 (xt G L71) y69.2) → va_S A s.heap H locs → lv_has ls 12 [(10, .int s38.2.1), (9, .int x30), (7, .int s19.2.1), (6, .int x9), (5, .int x8), (4, .int x7), (3, .int x5), (0, .ref (ad72 a))] → W p l e (headSpec wuX0_codePicture ({ frames := 8, cells := y.1.length, slots := wt y.1, locals := 241 })).room s m ([.ref (ad a), .int p0, .int p1] : List Value).toArray below meth c H locs (L71 : NN).length (wt L71) (MQ below (va_Qv (fun (u : Nat → Nat) => agr G.1 ad u) (fun u t => kE D ct u (xt G y.1) A y.2 t) A) ([.ref (ad a), .int p0, .int p1] : List Value).toArray s y.1.length (wt y.1) A) (F0 m 145 ls []) := by
          intro ad72 hag H locs ls hP hD hS hl
          have hT : L65 = L71 ++ w70.1 := by rw [hT71, eL71]
          have h2 : z64.2 = w70.2 := by rw [h2, ew70]
          have hk : (xt G L71).2.1 a = 0 := by rw [eL71]; exact xt_k _ hc hk
          have hc : a < (xt G L71).1 := by rw [eL71]; exact xt_l _ hc
          have hk2 : (xt G L71).2.1 b2 = 13 := by rw [eL71]; exact xt_k _ hc2 hk2
          have hc2 : b2 < (xt G L71).1 := by rw [eL71]; exact xt_l _ hc2
          have hk6 : (xt G L71).2.1 b6 = 10 := by rw [eL71]; exact xt_k _ hc6 hk6
          have hc6 : b6 < (xt G L71).1 := by rw [eL71]; exact xt_l _ hc6
          have hk31 : (xt G L71).2.1 b31 = 10 := by rw [eL71]; exact xt_k _ hc31 hk31
          have hc31 : b31 < (xt G L71).1 := by rw [eL71]; exact xt_l _ hc31
          have hk33 : (xt G L71).2.1 b33 = 10 := by rw [eL71]; exact xt_k _ hc33 hk33
          have hc33 : b33 < (xt G L71).1 := by rw [eL71]; exact xt_l _ hc33
          refine lv_aload_n hx hb dX0_codePicture_145 rfl (lv_at hl 7 rfl) ?_
          refine va_get (D := D) (ci := 0) (v := va_re ad72 (y69.2.2 a 1)) (C := RX0) (T := TX0) (N := 21) hx hb hts (mus hf_X0) hown hK hP a (wld_o ct ad72 (xt G L71) y69.2 hc hk (by decide)) rfl 1 (by decide) (hts (.fieldLink RX0 23 "VideoSuite$Coder" "now" "[I") (mu mw_813)) (fun _ h9 => h9) rfl dX0_codePicture_146 ?_
          refine lv_bipush (v := (17 : Int32)) hx hb dX0_codePicture_149 (by decide) ?_
          obtain ⟨b73, ho73, hc73, hk73, hF⟩ := dr_some hF
          refine W_st (st' := [.int (17 : Int32), .ref (ad72 b73)]) (by rw [va_some ho73]) ?_
          obtain ⟨hvc, hF⟩ := chk_some hF
          refine va_iald hx hb hK hP b73 1 (wld_i ct ad72 (xt G L71) y69.2 hc73 hk73) rfl hvc dX0_codePicture_151 ?_
          obtain ⟨x74, ex74, hF⟩ := ltt_some hF
          refine lv_topi (fun zx74 ezx74 => ?_)
          obtain rfl : x74 = zx74 := ex74.trans ezx74.symm
          refine lv_iconst (v := (1 : Int32)) hx hb dX0_codePicture_152 (by decide) ?_
          obtain ⟨y75, hy75, hF⟩ := bnd_some hF
          have J75 : ∀ (H : Heap) (locs : List Loc) (ls : Array Slot), va_P D classes (wld ct ad72 (xt G L71) y75) H → va_D A (wld ct ad72 (xt G L71) y75) → va_S A s.heap H locs → lv_has ls 12 [(10, .int s38.2.1), (9, .int x30), (7, .int s19.2.1), (6, .int x9), (5, .int x8), (4, .int x7), (3, .int x5), (0, .ref (ad72 a))] → W p l e (headSpec wuX0_codePicture ({ frames := 8, cells := y.1.length, slots := wt y.1, locals := 241 })).room s m ([.ref (ad a), .int p0, .int p1] : List Value).toArray below meth c H locs (L71 : NN).length (wt L71) (MQ below (va_Qv (fun (u : Nat → Nat) => agr G.1 ad u) (fun u t => kE D ct u (xt G y.1) A y.2 t) A) ([.ref (ad a), .int p0, .int p1] : List Value).toArray s y.1.length (wt y.1) A) (F0 m 201 ls []) := by
            intro H locs ls hP hD hS hl
            refine lv_aload_n hx hb dX0_codePicture_201 rfl (lv_at hl 7 rfl) ?_
            refine lv_iload hx hb dX0_codePicture_202 (lv_at hl 0 rfl) ?_
            obtain ⟨y76, hy76, hF⟩ := bnd_some hF
            have hf9 := wA_in hD hA9 hS
            refine va_calli (va_runV (As := [.int s38.2.1]) (rest := []) ⟨hx, hb, hml, hown, hts⟩ (kX0_drawStep l D ct ad72 Z (xt G L71) y75 H.size a s38.2.1 y76 hc hk hy76) (cwV 1 hts gX0_codePicture_X0_drawStep rfl rfl rfl (by decide +kernel) ⟨Nat.le_of_ble_eq_true rfl, Nat.le_of_ble_eq_true rfl⟩) ⟨fun a U g mk q => by obtain ⟨q0, q1, qP, qK, qD, qZ, qN⟩ := q; exact ⟨q0, q1, qP, va_K.moved (u := U) (U := U.calling g mk a) (Vm.Alike.refl U.vm) qK, qD, sF.moved (u := U) (U := U.calling g mk a) (Vm.Alike.refl U.vm) qZ, nF.same rfl qN⟩, va_recv hK hP (ci := 0) (q0 := a) rfl (wld_o ct ad72 (xt G L71) y75 hc hk (by decide)), fun U hU hW => ⟨rfl, by rw [hU], by rw [hU]; exact hP, va_K.moved hW.alike hK, hD.weaken (fun _ _ _ _ => trivial), by rw [hU]; exact ((hZ.kept hS.2.1).narrow hf9).moved hW.alike, hN.warm hW⟩⟩ rfl rfl hl.1 rfl (lv_room (Nat.le_of_ble_eq_true rfl)) dX0_codePicture_204 (room_d hT hbl)) hS (fun q _ h => hf9 q h) hf9 (fun r u t H locs ht hvm hw hB hz1 hk1 hS => ?_)
            obtain ⟨hP, hK9, hD9⟩ := hB
            rw [ht] at hP
            try dsimp only at hw
            subst hw
            refine W_cs (k := (L71 : NN).length) (n := wt L71) rfl rfl ?_
            have hD := hD9.weaken (fun _ q _ h => hf9 q.1 h)
            refine lv_istore (lv' := [(11, .int y76.2), (10, .int s38.2.1), (9, .int x30), (7, .int s19.2.1), (6, .int x9), (5, .int x8), (4, .int x7), (3, .int x5), (0, .ref (ad72 a))]) hx hb dX0_codePicture_207 hl (by decide) rfl (fun ls hl => ?_)
            refine lv_aload_n hx hb dX0_codePicture_209 rfl (lv_at hl 8 rfl) ?_
            refine lv_iload hx hb dX0_codePicture_210 (lv_at hl 1 rfl) ?_
            refine lv_iload hx hb dX0_codePicture_212 (lv_at hl 0 rfl) ?_
            obtain ⟨y77, hy77, hF⟩ := bnd_some hF
            have hf9 := wA_in hD hA9 hS
            refine va_callv (va_runV (As := [.int s38.2.1, .int y76.2]) (rest := []) ⟨hx, hb, hml, hown, hts⟩ (kX0_build l D ct ad72 Z (xt G L71) y76.1 H.size a s38.2.1 y76.2 y77 hc hk hy77) (cwV 2 hts gX0_codePicture_X0_build rfl rfl rfl (by decide +kernel) ⟨Nat.le_of_ble_eq_true rfl, Nat.le_of_ble_eq_true rfl⟩) ⟨fun a U g mk q => by obtain ⟨q0, q1, qP, qK, qD, qZ, qN⟩ := q; exact ⟨q0, q1, qP, va_K.moved (u := U) (U := U.calling g mk a) (Vm.Alike.refl U.vm) qK, qD, sF.moved (u := U) (U := U.calling g mk a) (Vm.Alike.refl U.vm) qZ, nF.same rfl qN⟩, va_recv hK hP (ci := 0) (q0 := a) rfl (wld_o ct ad72 (xt G L71) y76.1 hc hk (by decide)), fun U hU hW => ⟨rfl, by rw [hU], by rw [hU]; exact hP, va_K.moved hW.alike hK, hD.weaken (fun _ _ _ _ => trivial), by rw [hU]; exact ((hZ.kept hS.2.1).narrow hf9).moved hW.alike, hN.warm hW⟩⟩ rfl rfl hl.1 rfl (lv_room (Nat.le_of_ble_eq_true rfl)) dX0_codePicture_214 (room_d hT hbl)) hS (fun q _ h => hf9 q h) hf9 (fun u t H locs ht hvm hw hB hz1 hk1 hS => ?_)
            obtain ⟨hP, hK9, hD9⟩ := hB
            rw [ht] at hP
            refine W_cs (k := (L71 : NN).length) (n := wt L71) rfl rfl ?_
            have hD := hD9.weaken (fun _ q _ h => hf9 q.1 h)
            refine lv_aload_n hx hb dX0_codePicture_217 rfl (lv_at hl 8 rfl) ?_
            refine lv_iload hx hb dX0_codePicture_218 (lv_at hl 1 rfl) ?_
            obtain ⟨y78, hy78, hF⟩ := bnd_some hF
            obtain ⟨w79, hF, ew79⟩ := app_some hF
            obtain ⟨L80, eL80, hF⟩ := ltt_some hF
            have hT80 : L65 = (L71 ++ y78.1) ++ w79.1 := by rw [hT, ew79]; simp only [List.append_assoc]
            have hf9 := wA_in hD hA9 hS
            refine va_callv (va_runV (As := [.int s38.2.1]) (rest := []) ⟨hx, hb, hml, hown, hts⟩ (kX0_writeBlock l D ct ad72 Z (xt G L71) y77 _ a s38.2.1 y78 hc hk hy78) (cwV 1 hts gX0_codePicture_X0_writeBlock rfl rfl rfl (by decide +kernel) ⟨Nat.le_of_ble_eq_true rfl, Nat.le_of_ble_eq_true rfl⟩) ⟨fun a U g mk q => by obtain ⟨q0, q1, qP, qK, qD, qZ, qN⟩ := q; exact ⟨q0, q1, qP, va_K.moved (u := U) (U := U.calling g mk a) (Vm.Alike.refl U.vm) qK, qD, sF.moved (u := U) (U := U.calling g mk a) (Vm.Alike.refl U.vm) qZ, nF.same rfl qN⟩, va_recv hK hP (ci := 0) (q0 := a) rfl (wld_o ct ad72 (xt G L71) y77 hc hk (by decide)), fun U hU hW => ⟨rfl, by rw [hU], by rw [hU]; exact hP, va_K.moved hW.alike hK, hD.weaken (fun _ _ _ _ => trivial), by rw [hU]; exact ((hZ.kept hS.2.1).narrow hf9).moved hW.alike, hN.warm hW⟩⟩ rfl rfl hl.1 rfl (lv_room (Nat.le_of_ble_eq_true rfl)) dX0_codePicture_220 (room_s hT80 hbl)) hS (fun q _ h => hf9 q h) hf9 (fun ad81 t H locs ht hvm hw hB hz1 hk1 hS => ?_)
            have hn82 := hw
            obtain ⟨hP, hK9, hD9⟩ := hB
            rw [ht] at hP
            have hD := hD9.weaken (fun _ q _ h => hf9 q.1 h)
            rw [xt_xt, ← eL80] at hP hD
            refine W_cs (k := L80.length) (n := wt L80) (by rw [eL80]; exact (len_s L71 y78.1).symm) (by rw [eL80]; exact (wt_app L71 y78.1).symm) ?_
            have hT : L65 = L80 ++ w79.1 := by rw [hT80, eL80]
            have h2 : z64.2 = w79.2 := by rw [h2, ew79]
            have hl := lv_sub (l' := [(11, .int y76.2), (10, .int s38.2.1), (9, .int x30), (7, .int s19.2.1), (6, .int x9), (5, .int x8), (4, .int x7), (3, .int x5), (0, .ref (ad72 a))]) hl [0, 1, 2, 3, 4, 5, 6, 7, 8] rfl
            have e9 : ([(11, .int y76.2), (10, .int s38.2.1), (9, .int x30), (7, .int s19.2.1), (6, .int x9), (5, .int x8), (4, .int x7), (3, .int x5), (0, .ref (ad72 a))] : List (Nat × Value)) = [(11, .int y76.2), (10, .int s38.2.1), (9, .int x30), (7, .int s19.2.1), (6, .int x9), (5, .int x8), (4, .int x7), (3, .int x5), (0, .ref (ad81 a))] := (by first | rfl | simp only [hn82 a hc])
            rw [e9] at hl
            clear e9
            have hk : (xt G L80).2.1 a = 0 := by rw [eL80]; exact xt_k _ hc hk
            have hc : a < (xt G L80).1 := by rw [eL80]; exact xt_l _ hc
            have hk2 : (xt G L80).2.1 b2 = 13 := by rw [eL80]; exact xt_k _ hc2 hk2
            have hc2 : b2 < (xt G L80).1 := by rw [eL80]; exact xt_l _ hc2
            have hk6 : (xt G L80).2.1 b6 = 10 := by rw [eL80]; exact xt_k _ hc6 hk6
            have hc6 : b6 < (xt G L80).1 := by rw [eL80]; exact xt_l _ hc6
            have hk31 : (xt G L80).2.1 b31 = 10 := by rw [eL80]; exact xt_k _ hc31 hk31
            have hc31 : b31 < (xt G L80).1 := by rw [eL80]; exact xt_l _ hc31
            have hk33 : (xt G L80).2.1 b33 = 10 := by rw [eL80]; exact xt_k _ hc33 hk33
            have hc33 : b33 < (xt G L80).1 := by rw [eL80]; exact xt_l _ hc33
            have hk73 : (xt G L80).2.1 b73 = 13 := by rw [eL80]; exact xt_k _ hc73 hk73
            have hc73 : b73 < (xt G L80).1 := by rw [eL80]; exact xt_l _ hc73
            have hag := agr_t (xt_ge _ _) hag hn82
            refine lv_aload_n hx hb dX0_codePicture_223 rfl (lv_at hl 8 rfl) ?_
            refine lv_iload hx hb dX0_codePicture_224 (lv_at hl 1 rfl) ?_
            obtain ⟨y83, hy83, hF⟩ := bnd_some hF
            obtain ⟨w84, hF, ew84⟩ := app_some hF
            obtain ⟨L85, eL85, hF⟩ := ltt_some hF
            have hT85 : L65 = (L80 ++ y83.1) ++ w84.1 := by rw [hT, ew84]; simp only [List.append_assoc]
            have hf9 := wA_in hD hA9 hS
            refine va_callv (va_runV (As := [.int s38.2.1]) (rest := []) ⟨hx, hb, hml, hown, hts⟩ (kX0_writeMotion l D ct ad81 Z (xt G L80) y78.2 _ a s38.2.1 y83 hc hk hy83) (cwV 1 hts gX0_codePicture_X0_writeMotion rfl rfl rfl (by decide +kernel) ⟨Nat.le_of_ble_eq_true rfl, Nat.le_of_ble_eq_true rfl⟩) ⟨fun a U g mk q => by obtain ⟨q0, q1, qP, qK, qD, qZ, qN⟩ := q; exact ⟨q0, q1, qP, va_K.moved (u := U) (U := U.calling g mk a) (Vm.Alike.refl U.vm) qK, qD, sF.moved (u := U) (U := U.calling g mk a) (Vm.Alike.refl U.vm) qZ, nF.same rfl qN⟩, va_recv hK hP (ci := 0) (q0 := a) rfl (wld_o ct ad81 (xt G L80) y78.2 hc hk (by decide)), fun U hU hW => ⟨rfl, by rw [hU], by rw [hU]; exact hP, va_K.moved hW.alike hK, hD.weaken (fun _ _ _ _ => trivial), by rw [hU]; exact ((hZ.kept hS.2.1).narrow hf9).moved hW.alike, hN.warm hW⟩⟩ rfl rfl hl.1 rfl (lv_room (Nat.le_of_ble_eq_true rfl)) dX0_codePicture_226 (room_s hT85 hbl)) hS (fun q _ h => hf9 q h) hf9 (fun ad86 t H locs ht hvm hw hB hz1 hk1 hS => ?_)
            have hn87 := hw
            obtain ⟨hP, hK9, hD9⟩ := hB
            rw [ht] at hP
            have hD := hD9.weaken (fun _ q _ h => hf9 q.1 h)
            rw [xt_xt, ← eL85] at hP hD
            refine W_cs (k := L85.length) (n := wt L85) (by rw [eL85]; exact (len_s L80 y83.1).symm) (by rw [eL85]; exact (wt_app L80 y83.1).symm) ?_
            have hT : L65 = L85 ++ w84.1 := by rw [hT85, eL85]
            have h2 : z64.2 = w84.2 := by rw [h2, ew84]
            have hl := lv_sub (l' := [(11, .int y76.2), (10, .int s38.2.1), (9, .int x30), (7, .int s19.2.1), (6, .int x9), (5, .int x8), (4, .int x7), (3, .int x5), (0, .ref (ad81 a))]) hl [0, 1, 2, 3, 4, 5, 6, 7, 8] rfl
            have e9 : ([(11, .int y76.2), (10, .int s38.2.1), (9, .int x30), (7, .int s19.2.1), (6, .int x9), (5, .int x8), (4, .int x7), (3, .int x5), (0, .ref (ad81 a))] : List (Nat × Value)) = [(11, .int y76.2), (10, .int s38.2.1), (9, .int x30), (7, .int s19.2.1), (6, .int x9), (5, .int x8), (4, .int x7), (3, .int x5), (0, .ref (ad86 a))] := (by first | rfl | simp only [hn87 a hc])
            rw [e9] at hl
            clear e9
            have hk : (xt G L85).2.1 a = 0 := by rw [eL85]; exact xt_k _ hc hk
            have hc : a < (xt G L85).1 := by rw [eL85]; exact xt_l _ hc
            have hk2 : (xt G L85).2.1 b2 = 13 := by rw [eL85]; exact xt_k _ hc2 hk2
            have hc2 : b2 < (xt G L85).1 := by rw [eL85]; exact xt_l _ hc2
            have hk6 : (xt G L85).2.1 b6 = 10 := by rw [eL85]; exact xt_k _ hc6 hk6
            have hc6 : b6 < (xt G L85).1 := by rw [eL85]; exact xt_l _ hc6
            have hk31 : (xt G L85).2.1 b31 = 10 := by rw [eL85]; exact xt_k _ hc31 hk31
            have hc31 : b31 < (xt G L85).1 := by rw [eL85]; exact xt_l _ hc31
            have hk33 : (xt G L85).2.1 b33 = 10 := by rw [eL85]; exact xt_k _ hc33 hk33
            have hc33 : b33 < (xt G L85).1 := by rw [eL85]; exact xt_l _ hc33
            have hk73 : (xt G L85).2.1 b73 = 13 := by rw [eL85]; exact xt_k _ hc73 hk73
            have hc73 : b73 < (xt G L85).1 := by rw [eL85]; exact xt_l _ hc73
            have hag := agr_t (xt_ge _ _) hag hn87
            refine lv_aload_n hx hb dX0_codePicture_229 rfl (lv_at hl 8 rfl) ?_
            refine lv_iload hx hb dX0_codePicture_230 (lv_at hl 1 rfl) ?_
            refine lv_iload hx hb dX0_codePicture_232 (lv_at hl 0 rfl) ?_
            obtain ⟨y88, hy88, hF⟩ := bnd_some hF
            obtain ⟨w89, hF, ew89⟩ := app_some hF
            obtain ⟨L90, eL90, hF⟩ := ltt_some hF
            have hT90 : L65 = (L85 ++ y88.1) ++ w89.1 := by rw [hT, ew89]; simp only [List.append_assoc]
            have hf9 := wA_in hD hA9 hS
            refine va_callv (va_runV (As := [.int s38.2.1, .int y76.2]) (rest := []) ⟨hx, hb, hml, hown, hts⟩ (kX0_writePattern l D ct ad86 Z (xt G L85) y83.2 _ a s38.2.1 y76.2 y88 hc hk hy88) (cwV 2 hts gX0_codePicture_X0_writePattern rfl rfl rfl (by decide +kernel) ⟨Nat.le_of_ble_eq_true rfl, Nat.le_of_ble_eq_true rfl⟩) ⟨fun a U g mk q => by obtain ⟨q0, q1, qP, qK, qD, qZ, qN⟩ := q; exact ⟨q0, q1, qP, va_K.moved (u := U) (U := U.calling g mk a) (Vm.Alike.refl U.vm) qK, qD, sF.moved (u := U) (U := U.calling g mk a) (Vm.Alike.refl U.vm) qZ, nF.same rfl qN⟩, va_recv hK hP (ci := 0) (q0 := a) rfl (wld_o ct ad86 (xt G L85) y83.2 hc hk (by decide)), fun U hU hW => ⟨rfl, by rw [hU], by rw [hU]; exact hP, va_K.moved hW.alike hK, hD.weaken (fun _ _ _ _ => trivial), by rw [hU]; exact ((hZ.kept hS.2.1).narrow hf9).moved hW.alike, hN.warm hW⟩⟩ rfl rfl hl.1 rfl (lv_room (Nat.le_of_ble_eq_true rfl)) dX0_codePicture_234 (room_s hT90 hbl)) hS (fun q _ h => hf9 q h) hf9 (fun ad91 t H locs ht hvm hw hB hz1 hk1 hS => ?_)
            have hn92 := hw
            obtain ⟨hP, hK9, hD9⟩ := hB
            rw [ht] at hP
            have hD := hD9.weaken (fun _ q _ h => hf9 q.1 h)
            rw [xt_xt, ← eL90] at hP hD
            refine W_cs (k := L90.length) (n := wt L90) (by rw [eL90]; exact (len_s L85 y88.1).symm) (by rw [eL90]; exact (wt_app L85 y88.1).symm) ?_
            have hT : L65 = L90 ++ w89.1 := by rw [hT90, eL90]
            have h2 : z64.2 = w89.2 := by rw [h2, ew89]
            have hl := lv_sub (l' := [(10, .int s38.2.1), (9, .int x30), (7, .int s19.2.1), (6, .int x9), (5, .int x8), (4, .int x7), (3, .int x5), (0, .ref (ad86 a))]) hl [1, 2, 3, 4, 5, 6, 7, 8] rfl
            have e9 : ([(10, .int s38.2.1), (9, .int x30), (7, .int s19.2.1), (6, .int x9), (5, .int x8), (4, .int x7), (3, .int x5), (0, .ref (ad86 a))] : List (Nat × Value)) = [(10, .int s38.2.1), (9, .int x30), (7, .int s19.2.1), (6, .int x9), (5, .int x8), (4, .int x7), (3, .int x5), (0, .ref (ad91 a))] := (by first | rfl | simp only [hn92 a hc])
            rw [e9] at hl
            clear e9
            have hk : (xt G L90).2.1 a = 0 := by rw [eL90]; exact xt_k _ hc hk
            have hc : a < (xt G L90).1 := by rw [eL90]; exact xt_l _ hc
            have hk2 : (xt G L90).2.1 b2 = 13 := by rw [eL90]; exact xt_k _ hc2 hk2
            have hc2 : b2 < (xt G L90).1 := by rw [eL90]; exact xt_l _ hc2
            have hk6 : (xt G L90).2.1 b6 = 10 := by rw [eL90]; exact xt_k _ hc6 hk6
            have hc6 : b6 < (xt G L90).1 := by rw [eL90]; exact xt_l _ hc6
            have hk31 : (xt G L90).2.1 b31 = 10 := by rw [eL90]; exact xt_k _ hc31 hk31
            have hc31 : b31 < (xt G L90).1 := by rw [eL90]; exact xt_l _ hc31
            have hk33 : (xt G L90).2.1 b33 = 10 := by rw [eL90]; exact xt_k _ hc33 hk33
            have hc33 : b33 < (xt G L90).1 := by rw [eL90]; exact xt_l _ hc33
            have hk73 : (xt G L90).2.1 b73 = 13 := by rw [eL90]; exact xt_k _ hc73 hk73
            have hc73 : b73 < (xt G L90).1 := by rw [eL90]; exact xt_l _ hc73
            have hag := agr_t (xt_ge _ _) hag hn92
            refine lv_aload_n hx hb dX0_codePicture_237 rfl (lv_at hl 7 rfl) ?_
            refine lv_iload hx hb dX0_codePicture_238 (lv_at hl 0 rfl) ?_
            obtain ⟨y93, hy93, hF⟩ := bnd_some hF
            obtain ⟨w94, hF, ew94⟩ := app_some hF
            obtain ⟨L95, eL95, hF⟩ := ltt_some hF
            have hT95 : L65 = (L90 ++ y93.1) ++ w94.1 := by rw [hT, ew94]; simp only [List.append_assoc]
            have hf9 := wA_in hD hA9 hS
            refine va_callv (va_runV (As := [.int s38.2.1]) (rest := []) ⟨hx, hb, hml, hown, hts⟩ (kX0_writeLevels l D ct ad91 Z (xt G L90) y88.2 _ a s38.2.1 y93 hc hk hy93) (cwV 1 hts gX0_codePicture_X0_writeLevels rfl rfl rfl (by decide +kernel) ⟨Nat.le_of_ble_eq_true rfl, Nat.le_of_ble_eq_true rfl⟩) ⟨fun a U g mk q => by obtain ⟨q0, q1, qP, qK, qD, qZ, qN⟩ := q; exact ⟨q0, q1, qP, va_K.moved (u := U) (U := U.calling g mk a) (Vm.Alike.refl U.vm) qK, qD, sF.moved (u := U) (U := U.calling g mk a) (Vm.Alike.refl U.vm) qZ, nF.same rfl qN⟩, va_recv hK hP (ci := 0) (q0 := a) rfl (wld_o ct ad91 (xt G L90) y88.2 hc hk (by decide)), fun U hU hW => ⟨rfl, by rw [hU], by rw [hU]; exact hP, va_K.moved hW.alike hK, hD.weaken (fun _ _ _ _ => trivial), by rw [hU]; exact ((hZ.kept hS.2.1).narrow hf9).moved hW.alike, hN.warm hW⟩⟩ rfl rfl hl.1 rfl (lv_room (Nat.le_of_ble_eq_true rfl)) dX0_codePicture_240 (room_s hT95 hbl)) hS (fun q _ h => hf9 q h) hf9 (fun ad96 t H locs ht hvm hw hB hz1 hk1 hS => ?_)
            have hn97 := hw
            obtain ⟨hP, hK9, hD9⟩ := hB
            rw [ht] at hP
            have hD := hD9.weaken (fun _ q _ h => hf9 q.1 h)
            rw [xt_xt, ← eL95] at hP hD
            refine W_cs (k := L95.length) (n := wt L95) (by rw [eL95]; exact (len_s L90 y93.1).symm) (by rw [eL95]; exact (wt_app L90 y93.1).symm) ?_
            have hT : L65 = L95 ++ w94.1 := by rw [hT95, eL95]
            have h2 : z64.2 = w94.2 := by rw [h2, ew94]
            have hl := lv_sub (l' := [(10, .int s38.2.1), (9, .int x30), (7, .int s19.2.1), (6, .int x9), (5, .int x8), (4, .int x7), (3, .int x5), (0, .ref (ad91 a))]) hl [0, 1, 2, 3, 4, 5, 6, 7] rfl
            have e9 : ([(10, .int s38.2.1), (9, .int x30), (7, .int s19.2.1), (6, .int x9), (5, .int x8), (4, .int x7), (3, .int x5), (0, .ref (ad91 a))] : List (Nat × Value)) = [(10, .int s38.2.1), (9, .int x30), (7, .int s19.2.1), (6, .int x9), (5, .int x8), (4, .int x7), (3, .int x5), (0, .ref (ad96 a))] := (by first | rfl | simp only [hn97 a hc])
            rw [e9] at hl
            clear e9
            have hk : (xt G L95).2.1 a = 0 := by rw [eL95]; exact xt_k _ hc hk
            have hc : a < (xt G L95).1 := by rw [eL95]; exact xt_l _ hc
            have hk2 : (xt G L95).2.1 b2 = 13 := by rw [eL95]; exact xt_k _ hc2 hk2
            have hc2 : b2 < (xt G L95).1 := by rw [eL95]; exact xt_l _ hc2
            have hk6 : (xt G L95).2.1 b6 = 10 := by rw [eL95]; exact xt_k _ hc6 hk6
            have hc6 : b6 < (xt G L95).1 := by rw [eL95]; exact xt_l _ hc6
            have hk31 : (xt G L95).2.1 b31 = 10 := by rw [eL95]; exact xt_k _ hc31 hk31
            have hc31 : b31 < (xt G L95).1 := by rw [eL95]; exact xt_l _ hc31
            have hk33 : (xt G L95).2.1 b33 = 10 := by rw [eL95]; exact xt_k _ hc33 hk33
            have hc33 : b33 < (xt G L95).1 := by rw [eL95]; exact xt_l _ hc33
            have hk73 : (xt G L95).2.1 b73 = 13 := by rw [eL95]; exact xt_k _ hc73 hk73
            have hc73 : b73 < (xt G L95).1 := by rw [eL95]; exact xt_l _ hc73
            have hag := agr_t (xt_ge _ _) hag hn97
            refine lv_aload_n hx hb dX0_codePicture_243 rfl (lv_at hl 7 rfl) ?_
            refine va_get (D := D) (ci := 0) (v := va_re ad96 (y93.2.2 a 3)) (C := RX0) (T := TX0) (N := 21) hx hb hts (mus hf_X0) hown hK hP a (wld_o ct ad96 (xt G L95) y93.2 hc hk (by decide)) rfl 3 (by decide) (hts (.fieldLink RX0 36 "VideoSuite$Coder" "work" "LVideoSuite$Work;") (mu mw_817)) (fun _ h9 => h9) rfl dX0_codePicture_244 ?_
            refine lv_iload hx hb dX0_codePicture_247 (lv_at hl 0 rfl) ?_
            obtain ⟨b98, ho98, hc98, hk98, hF⟩ := dr_some hF
            refine W_st (st' := [.int s38.2.1, .ref (ad96 b98)]) (by rw [va_some ho98]) ?_
            obtain ⟨y99, hy99, hF⟩ := bnd_some hF
            have hf9 := wA_in hD hA9 hS
            refine va_callv (va_runV (As := [.int s38.2.1]) (rest := []) ⟨hx, hb, hml, hown, hts⟩ (kX9_endBlock l D ct ad96 Z (xt G L95) y93.2 H.size b98 s38.2.1 y99 hc98 hk98 hy99) (cwV 1 hts gX0_codePicture_X9_endBlock rfl rfl rfl (by decide +kernel) ⟨Nat.le_of_ble_eq_true rfl, Nat.le_of_ble_eq_true rfl⟩) ⟨fun a U g mk q => by obtain ⟨q0, q1, qP, qK, qD, qZ, qN⟩ := q; exact ⟨q0, q1, qP, va_K.moved (u := U) (U := U.calling g mk a) (Vm.Alike.refl U.vm) qK, qD, sF.moved (u := U) (U := U.calling g mk a) (Vm.Alike.refl U.vm) qZ, nF.same rfl qN⟩, va_recv hK hP (ci := 9) (q0 := b98) rfl (wld_o ct ad96 (xt G L95) y93.2 hc98 hk98 (by decide)), fun U hU hW => ⟨rfl, by rw [hU], by rw [hU]; exact hP, va_K.moved hW.alike hK, hD.weaken (fun _ _ _ _ => trivial), by rw [hU]; exact ((hZ.kept hS.2.1).narrow hf9).moved hW.alike, hN.warm hW⟩⟩ rfl rfl hl.1 rfl (lv_room (Nat.le_of_ble_eq_true rfl)) dX0_codePicture_249 (room_d hT hbl)) hS (fun q _ h => hf9 q h) hf9 (fun u t H locs ht hvm hw hB hz1 hk1 hS => ?_)
            obtain ⟨hP, hK9, hD9⟩ := hB
            rw [ht] at hP
            refine W_cs (k := (L95 : NN).length) (n := wt L95) rfl rfl ?_
            have hD := hD9.weaken (fun _ q _ h => hf9 q.1 h)
            refine lv_aload_n hx hb dX0_codePicture_252 rfl (lv_at hl 7 rfl) ?_
            refine lv_iload hx hb dX0_codePicture_253 (lv_at hl 0 rfl) ?_
            obtain ⟨y100, hy100, hF⟩ := bnd_some hF
            obtain ⟨w101, hF, ew101⟩ := app_some hF
            obtain ⟨L102, eL102, hF⟩ := ltt_some hF
            have hT102 : L65 = (L95 ++ y100.1) ++ w101.1 := by rw [hT, ew101]; simp only [List.append_assoc]
            have hf9 := wA_in hD hA9 hS
            refine va_callv (va_runV (As := [.int s38.2.1]) (rest := []) ⟨hx, hb, hml, hown, hts⟩ (kX0_endSlice l D ct ad96 Z (xt G L95) y99 _ a s38.2.1 y100 hc hk hy100) (cwV 1 hts gX0_codePicture_X0_endSlice rfl rfl rfl (by decide +kernel) ⟨Nat.le_of_ble_eq_true rfl, Nat.le_of_ble_eq_true rfl⟩) ⟨fun a U g mk q => by obtain ⟨q0, q1, qP, qK, qD, qZ, qN⟩ := q; exact ⟨q0, q1, qP, va_K.moved (u := U) (U := U.calling g mk a) (Vm.Alike.refl U.vm) qK, qD, sF.moved (u := U) (U := U.calling g mk a) (Vm.Alike.refl U.vm) qZ, nF.same rfl qN⟩, va_recv hK hP (ci := 0) (q0 := a) rfl (wld_o ct ad96 (xt G L95) y99 hc hk (by decide)), fun U hU hW => ⟨rfl, by rw [hU], by rw [hU]; exact hP, va_K.moved hW.alike hK, hD.weaken (fun _ _ _ _ => trivial), by rw [hU]; exact ((hZ.kept hS.2.1).narrow hf9).moved hW.alike, hN.warm hW⟩⟩ rfl rfl hl.1 rfl (lv_room (Nat.le_of_ble_eq_true rfl)) dX0_codePicture_255 (room_s hT102 hbl)) hS (fun q _ h => hf9 q h) hf9 (fun ad103 t H locs ht hvm hw hB hz1 hk1 hS => ?_)
            have hn104 := hw
            obtain ⟨hP, hK9, hD9⟩ := hB
            rw [ht] at hP
            have hD := hD9.weaken (fun _ q _ h => hf9 q.1 h)
            rw [xt_xt, ← eL102] at hP hD
            refine W_cs (k := L102.length) (n := wt L102) (by rw [eL102]; exact (len_s L95 y100.1).symm) (by rw [eL102]; exact (wt_app L95 y100.1).symm) ?_
            have hT : L65 = L102 ++ w101.1 := by rw [hT102, eL102]
            have h2 : z64.2 = w101.2 := by rw [h2, ew101]
            have hl := lv_sub (l' := [(10, .int s38.2.1), (9, .int x30), (7, .int s19.2.1), (6, .int x9), (5, .int x8), (4, .int x7), (3, .int x5), (0, .ref (ad96 a))]) hl [0, 1, 2, 3, 4, 5, 6, 7] rfl
            have e9 : ([(10, .int s38.2.1), (9, .int x30), (7, .int s19.2.1), (6, .int x9), (5, .int x8), (4, .int x7), (3, .int x5), (0, .ref (ad96 a))] : List (Nat × Value)) = [(10, .int s38.2.1), (9, .int x30), (7, .int s19.2.1), (6, .int x9), (5, .int x8), (4, .int x7), (3, .int x5), (0, .ref (ad103 a))] := (by first | rfl | simp only [hn104 a hc])
            rw [e9] at hl
            clear e9
            have hk : (xt G L102).2.1 a = 0 := by rw [eL102]; exact xt_k _ hc hk
            have hc : a < (xt G L102).1 := by rw [eL102]; exact xt_l _ hc
            have hk2 : (xt G L102).2.1 b2 = 13 := by rw [eL102]; exact xt_k _ hc2 hk2
            have hc2 : b2 < (xt G L102).1 := by rw [eL102]; exact xt_l _ hc2
            have hk6 : (xt G L102).2.1 b6 = 10 := by rw [eL102]; exact xt_k _ hc6 hk6
            have hc6 : b6 < (xt G L102).1 := by rw [eL102]; exact xt_l _ hc6
            have hk31 : (xt G L102).2.1 b31 = 10 := by rw [eL102]; exact xt_k _ hc31 hk31
            have hc31 : b31 < (xt G L102).1 := by rw [eL102]; exact xt_l _ hc31
            have hk33 : (xt G L102).2.1 b33 = 10 := by rw [eL102]; exact xt_k _ hc33 hk33
            have hc33 : b33 < (xt G L102).1 := by rw [eL102]; exact xt_l _ hc33
            have hk73 : (xt G L102).2.1 b73 = 13 := by rw [eL102]; exact xt_k _ hc73 hk73
            have hc73 : b73 < (xt G L102).1 := by rw [eL102]; exact xt_l _ hc73
            have hk98 : (xt G L102).2.1 b98 = 9 := by rw [eL102]; exact xt_k _ hc98 hk98
            have hc98 : b98 < (xt G L102).1 := by rw [eL102]; exact xt_l _ hc98
            have hag := agr_t (xt_ge _ _) hag hn104
            obtain ⟨x105, ex105, hF⟩ := ltt_some hF
            refine lv_iinc (v := x105) (lv' := [(10, .int x105), (9, .int x30), (7, .int s19.2.1), (6, .int x9), (5, .int x8), (4, .int x7), (3, .int x5), (0, .ref (ad103 a))]) hx hb dX0_codePicture_258 hl (k := 0) rfl (by rw [ex105]; rfl) (by decide) rfl (fun ls hl => ?_)
            refine lv_goto (tgt := 120) hx hb dX0_codePicture_261 (by decide) ?_
            obtain rfl := Option.some.inj hF
            have e1 : L65 = L102 := by rw [hT]; exact List.append_nil _
            have e2 : z64.2 = .inl (L102, (x105, y100.2)) := h2
            rw [e2] at hwz64
            obtain ⟨r2, er2, hwz64⟩ := hwz64
            exact hwz64 ⟨u37 ++ z64.1, by show L102 = _; rw [← e1, eL65, eu37]; simp only [List.append_assoc]⟩ (by show L40 = L102 ++ r2; rw [eq37, er2, ← e1, eL65]; simp only [List.append_assoc]) _ hag _ _ _ hP hD hS (lv_sub hl [0, 1, 2, 3, 4, 5, 6, 7] rfl)
          clear hF
          have hF := hy75
          clear hy75
          refine lv_icmp_ne (tgt := 175) hx hb dX0_codePicture_153 (by decide) (fun c106 => ?_) (fun c106 => ?_)
          · rw [if_neg c106] at hF
            refine lv_aload_n hx hb dX0_codePicture_175 rfl (lv_at hl 7 rfl) ?_
            refine va_get (D := D) (ci := 0) (v := va_re ad72 (y69.2.2 a 1)) (C := RX0) (T := TX0) (N := 21) hx hb hts (mus hf_X0) hown hK hP a (wld_o ct ad72 (xt G L71) y69.2 hc hk (by decide)) rfl 1 (by decide) (hts (.fieldLink RX0 23 "VideoSuite$Coder" "now" "[I") (mu mw_813)) (fun _ h9 => h9) rfl dX0_codePicture_176 ?_
            refine lv_bipush (v := (8 : Int32)) hx hb dX0_codePicture_179 (by decide) ?_
            refine W_st (st' := [.int (8 : Int32), .ref (ad72 b73)]) (by rw [va_some ho73]) ?_
            obtain ⟨hvc, hF⟩ := chk_some hF
            refine va_iald hx hb hK hP b73 1 (wld_i ct ad72 (xt G L71) y69.2 hc73 hk73) rfl hvc dX0_codePicture_181 ?_
            obtain ⟨x107, ex107, hF⟩ := ltt_some hF
            refine lv_topi (fun zx107 ezx107 => ?_)
            obtain rfl : x107 = zx107 := ex107.trans ezx107.symm
            refine lv_iconst (v := (1 : Int32)) hx hb dX0_codePicture_182 (by decide) ?_
            obtain ⟨y108, hy108, hF⟩ := bnd_some hF
            have J108 : ∀ (H : Heap) (locs : List Loc) (ls : Array Slot), va_P D classes (wld ct ad72 (xt G L71) y108) H → va_D A (wld ct ad72 (xt G L71) y108) → va_S A s.heap H locs → lv_has ls 12 [(10, .int s38.2.1), (9, .int x30), (7, .int s19.2.1), (6, .int x9), (5, .int x8), (4, .int x7), (3, .int x5), (0, .ref (ad72 a))] → W p l e (headSpec wuX0_codePicture ({ frames := 8, cells := y.1.length, slots := wt y.1, locals := 241 })).room s m ([.ref (ad a), .int p0, .int p1] : List Value).toArray below meth c H locs (L71 : NN).length (wt L71) (MQ below (va_Qv (fun (u : Nat → Nat) => agr G.1 ad u) (fun u t => kE D ct u (xt G y.1) A y.2 t) A) ([.ref (ad a), .int p0, .int p1] : List Value).toArray s y.1.length (wt y.1) A) (F0 m 201 ls []) := by
              intro H locs ls hP hD hS hl
              obtain rfl := Option.some.inj hF
              exact J75 _ _ _ hP hD hS (lv_sub hl [0, 1, 2, 3, 4, 5, 6, 7] rfl)
            clear hF
            have hF := hy108
            clear hy108
            refine lv_icmp_ne (tgt := 195) hx hb dX0_codePicture_183 (by decide) (fun c109 => ?_) (fun c109 => ?_)
            · rw [if_neg c109] at hF
              refine lv_aload_n hx hb dX0_codePicture_195 rfl (lv_at hl 7 rfl) ?_
              refine lv_iload hx hb dX0_codePicture_196 (lv_at hl 0 rfl) ?_
              obtain ⟨y110, hy110, hF⟩ := bnd_some hF
              have hf9 := wA_in hD hA9 hS
              refine va_callv (va_runV (As := [.int s38.2.1]) (rest := []) ⟨hx, hb, hml, hown, hts⟩ (kX0_chooseByCosts l D ct ad72 Z (xt G L71) y69.2 H.size a s38.2.1 y110 hc hk hy110) (cwV 1 hts gX0_codePicture_X0_chooseByCosts rfl rfl rfl (by decide +kernel) ⟨Nat.le_of_ble_eq_true rfl, Nat.le_of_ble_eq_true rfl⟩) ⟨fun a U g mk q => by obtain ⟨q0, q1, qP, qK, qD, qZ, qN⟩ := q; exact ⟨q0, q1, qP, va_K.moved (u := U) (U := U.calling g mk a) (Vm.Alike.refl U.vm) qK, qD, sF.moved (u := U) (U := U.calling g mk a) (Vm.Alike.refl U.vm) qZ, nF.same rfl qN⟩, va_recv hK hP (ci := 0) (q0 := a) rfl (wld_o ct ad72 (xt G L71) y69.2 hc hk (by decide)), fun U hU hW => ⟨rfl, by rw [hU], by rw [hU]; exact hP, va_K.moved hW.alike hK, hD.weaken (fun _ _ _ _ => trivial), by rw [hU]; exact ((hZ.kept hS.2.1).narrow hf9).moved hW.alike, hN.warm hW⟩⟩ rfl rfl hl.1 rfl (lv_room (Nat.le_of_ble_eq_true rfl)) dX0_codePicture_198 (room_d hT hbl)) hS (fun q _ h => hf9 q h) hf9 (fun u t H locs ht hvm hw hB hz1 hk1 hS => ?_)
              obtain ⟨hP, hK9, hD9⟩ := hB
              rw [ht] at hP
              refine W_cs (k := (L71 : NN).length) (n := wt L71) rfl rfl ?_
              have hD := hD9.weaken (fun _ q _ h => hf9 q.1 h)
              obtain rfl := Option.some.inj hF
              exact J108 _ _ _ hP hD hS (lv_sub hl [0, 1, 2, 3, 4, 5, 6, 7] rfl)
            · rw [if_pos c109] at hF
              refine lv_aload_n hx hb dX0_codePicture_186 rfl (lv_at hl 7 rfl) ?_
              refine lv_iload hx hb dX0_codePicture_187 (lv_at hl 0 rfl) ?_
              obtain ⟨y111, hy111, hF⟩ := bnd_some hF
              have hf9 := wA_in hD hA9 hS
              refine va_callv (va_runV (As := [.int s38.2.1]) (rest := []) ⟨hx, hb, hml, hown, hts⟩ (kX0_chooseByChance l D ct ad72 Z (xt G L71) y69.2 H.size a s38.2.1 y111 hc hk hy111) (cwV 1 hts gX0_codePicture_X0_chooseByChance rfl rfl rfl (by decide +kernel) ⟨Nat.le_of_ble_eq_true rfl, Nat.le_of_ble_eq_true rfl⟩) ⟨fun a U g mk q => by obtain ⟨q0, q1, qP, qK, qD, qZ, qN⟩ := q; exact ⟨q0, q1, qP, va_K.moved (u := U) (U := U.calling g mk a) (Vm.Alike.refl U.vm) qK, qD, sF.moved (u := U) (U := U.calling g mk a) (Vm.Alike.refl U.vm) qZ, nF.same rfl qN⟩, va_recv hK hP (ci := 0) (q0 := a) rfl (wld_o ct ad72 (xt G L71) y69.2 hc hk (by decide)), fun U hU hW => ⟨rfl, by rw [hU], by rw [hU]; exact hP, va_K.moved hW.alike hK, hD.weaken (fun _ _ _ _ => trivial), by rw [hU]; exact ((hZ.kept hS.2.1).narrow hf9).moved hW.alike, hN.warm hW⟩⟩ rfl rfl hl.1 rfl (lv_room (Nat.le_of_ble_eq_true rfl)) dX0_codePicture_189 (room_d hT hbl)) hS (fun q _ h => hf9 q h) hf9 (fun u t H locs ht hvm hw hB hz1 hk1 hS => ?_)
              obtain ⟨hP, hK9, hD9⟩ := hB
              rw [ht] at hP
              refine W_cs (k := (L71 : NN).length) (n := wt L71) rfl rfl ?_
              have hD := hD9.weaken (fun _ q _ h => hf9 q.1 h)
              refine lv_goto (tgt := 201) hx hb dX0_codePicture_192 (by decide) ?_
              obtain rfl := Option.some.inj hF
              exact J108 _ _ _ hP hD hS (lv_sub hl [0, 1, 2, 3, 4, 5, 6, 7] rfl)
          · rw [if_pos c106] at hF
            refine lv_aload_n hx hb dX0_codePicture_156 rfl (lv_at hl 7 rfl) ?_
            refine va_get (D := D) (ci := 0) (v := va_re ad72 (y69.2.2 a 3)) (C := RX0) (T := TX0) (N := 21) hx hb hts (mus hf_X0) hown hK hP a (wld_o ct ad72 (xt G L71) y69.2 hc hk (by decide)) rfl 3 (by decide) (hts (.fieldLink RX0 36 "VideoSuite$Coder" "work" "LVideoSuite$Work;") (mu mw_817)) (fun _ h9 => h9) rfl dX0_codePicture_157 ?_
            obtain ⟨b112, ho112, hc112, hk112, hF⟩ := dr_some hF
            refine W_st (st' := [.ref (ad72 b112)]) (by rw [va_some ho112]) ?_
            refine va_get (D := D) (ci := 9) (v := va_re ad72 (y69.2.2 b112 6)) (C := RX9) (T := TX9) (N := 20) hx hb hts (mus hf_X9) hown hK hP b112 (wld_o ct ad72 (xt G L71) y69.2 hc112 hk112 (by decide)) rfl 6 (by decide) (hts (.fieldLink RX0 216 "VideoSuite$Work" "info" "[I") (mu mw_445)) (fun _ h9 => h9) rfl dX0_codePicture_160 ?_
            refine lv_bipush (v := (8 : Int32)) hx hb dX0_codePicture_163 (by decide) ?_
            refine lv_iload hx hb dX0_codePicture_165 (lv_at hl 0 rfl) ?_
            refine lv_imul hx hb dX0_codePicture_167 ?_
            obtain ⟨x113, ex113, hF⟩ := ltt_some hF
            refine lv_topi (fun zx113 ezx113 => ?_)
            obtain rfl : x113 = zx113 := ex113.trans ezx113.symm
            refine lv_iconst (v := (0 : Int32)) hx hb dX0_codePicture_168 (by decide) ?_
            refine lv_iadd hx hb dX0_codePicture_169 ?_
            obtain ⟨x114, ex114, hF⟩ := ltt_some hF
            refine lv_topi (fun zx114 ezx114 => ?_)
            obtain rfl : x114 = zx114 := ex114.trans ezx114.symm
            refine lv_iconst (v := (2 : Int32)) hx hb dX0_codePicture_170 (by decide) ?_
            obtain ⟨b115, ho115, hc115, hk115, hF⟩ := dr_some hF
            refine W_st (st' := [.int (2 : Int32), .int x114, .ref (ad72 b115)]) (by rw [va_some ho115]) ?_
            obtain ⟨hvc, hF⟩ := chk_some hF
            refine va_iast hx hb hK hP hD hS b115 1 (wld_i ct ad72 (xt G L71) y69.2 hc115 hk115) rfl hvc dX0_codePicture_171 (fun H locs hP hD hS => ?_)
            obtain ⟨M116, eM116, hF⟩ := ltt_some hF
            rw [set_i ct ad72 (xt G L71) y69.2 hc115 hk115, ← eM116] at hP hD
            refine lv_goto (tgt := 201) hx hb dX0_codePicture_172 (by decide) ?_
            obtain rfl := Option.some.inj hF
            exact J75 _ _ _ hP hD hS (lv_sub hl [0, 1, 2, 3, 4, 5, 6, 7] rfl)
        clear hF
        obtain ⟨w117, hw117⟩ : ∃ z, z = y69 := ⟨_, rfl⟩
        have hF := hy69
        rw [← hw117] at hF
        clear hy69
        have hT : L71 = s38.1 ++ w117.1 := by rw [eL71, hw117]
        have h2 : y69.2 = w117.2 := by rw [hw117]
        have hbl := hbl71
        refine lv_if_eq (tgt := 145) hx hb dX0_codePicture_132 (by decide) (fun c118 => ?_) (fun c118 => ?_)
        · rw [if_pos c118] at hF
          obtain rfl := Option.some.inj hF
          have e1 : L71 = s38.1 := by rw [hT]; exact List.append_nil _
          have e2 : y69.2 = y68.1 := h2
          rw [e1] at J69
          try rw [e2] at J69
          exact J69 _ hag _ _ _ hP hD hS (lv_sub hl [0, 1, 2, 3, 4, 5, 6, 7] rfl)
        · rw [if_neg c118] at hF
          refine lv_aload_n hx hb dX0_codePicture_135 rfl (lv_at hl 7 rfl) ?_
          refine lv_iload hx hb dX0_codePicture_136 (lv_at hl 0 rfl) ?_
          obtain ⟨y119, hy119, hF⟩ := bnd_some hF
          have hf9 := wA_in hD hA9 hS
          refine va_callv (va_runV (As := [.int s38.2.1]) (rest := []) ⟨hx, hb, hml, hown, hts⟩ (kX0_beginSlice l D ct ad62 Z (xt G s38.1) y68.1 H.size a s38.2.1 y119 hc hk hy119) (cwV 1 hts gX0_codePicture_X0_beginSlice rfl rfl rfl (by decide +kernel) ⟨Nat.le_of_ble_eq_true rfl, Nat.le_of_ble_eq_true rfl⟩) ⟨fun a U g mk q => by obtain ⟨q0, q1, qP, qK, qD, qZ, qN⟩ := q; exact ⟨q0, q1, qP, va_K.moved (u := U) (U := U.calling g mk a) (Vm.Alike.refl U.vm) qK, qD, sF.moved (u := U) (U := U.calling g mk a) (Vm.Alike.refl U.vm) qZ, nF.same rfl qN⟩, va_recv hK hP (ci := 0) (q0 := a) rfl (wld_o ct ad62 (xt G s38.1) y68.1 hc hk (by decide)), fun U hU hW => ⟨rfl, by rw [hU], by rw [hU]; exact hP, va_K.moved hW.alike hK, hD.weaken (fun _ _ _ _ => trivial), by rw [hU]; exact ((hZ.kept hS.2.1).narrow hf9).moved hW.alike, hN.warm hW⟩⟩ rfl rfl hl.1 rfl (lv_room (Nat.le_of_ble_eq_true rfl)) dX0_codePicture_138 (room_d hT hbl)) hS (fun q _ h => hf9 q h) hf9 (fun u t H locs ht hvm hw hB hz1 hk1 hS => ?_)
          obtain ⟨hP, hK9, hD9⟩ := hB
          rw [ht] at hP
          refine W_cs (k := (s38.1 : NN).length) (n := wt s38.1) rfl rfl ?_
          have hD := hD9.weaken (fun _ q _ h => hf9 q.1 h)
          refine lv_aload_n hx hb dX0_codePicture_141 rfl (lv_at hl 7 rfl) ?_
          obtain ⟨y120, hy120, hF⟩ := bnd_some hF
          obtain ⟨w121, hF, ew121⟩ := app_some hF
          obtain ⟨L122, eL122, hF⟩ := ltt_some hF
          have hT122 : L71 = (s38.1 ++ y120.1) ++ w121.1 := by rw [hT, ew121]; simp only [List.append_assoc]
          have hf9 := wA_in hD hA9 hS
          refine va_callv (va_runV (As := []) (rest := []) ⟨hx, hb, hml, hown, hts⟩ (kX0_writeHeader l D ct ad62 Z (xt G s38.1) y119 _ a y120 hc hk hy120) (cwV 0 hts gX0_codePicture_X0_writeHeader rfl rfl rfl (by decide +kernel) ⟨Nat.le_of_ble_eq_true rfl, Nat.le_of_ble_eq_true rfl⟩) ⟨fun a U g mk q => by obtain ⟨q0, q1, qP, qK, qD, qZ, qN⟩ := q; exact ⟨q0, q1, qP, va_K.moved (u := U) (U := U.calling g mk a) (Vm.Alike.refl U.vm) qK, qD, sF.moved (u := U) (U := U.calling g mk a) (Vm.Alike.refl U.vm) qZ, nF.same rfl qN⟩, va_recv hK hP (ci := 0) (q0 := a) rfl (wld_o ct ad62 (xt G s38.1) y119 hc hk (by decide)), fun U hU hW => ⟨rfl, by rw [hU], by rw [hU]; exact hP, va_K.moved hW.alike hK, hD.weaken (fun _ _ _ _ => trivial), by rw [hU]; exact ((hZ.kept hS.2.1).narrow hf9).moved hW.alike, hN.warm hW⟩⟩ rfl rfl hl.1 rfl (lv_room (Nat.le_of_ble_eq_true rfl)) dX0_codePicture_142 (room_s hT122 hbl)) hS (fun q _ h => hf9 q h) hf9 (fun ad123 t H locs ht hvm hw hB hz1 hk1 hS => ?_)
          have hn124 := hw
          obtain ⟨hP, hK9, hD9⟩ := hB
          rw [ht] at hP
          have hD := hD9.weaken (fun _ q _ h => hf9 q.1 h)
          rw [xt_xt, ← eL122] at hP hD
          refine W_cs (k := L122.length) (n := wt L122) (by rw [eL122]; exact (len_s s38.1 y120.1).symm) (by rw [eL122]; exact (wt_app s38.1 y120.1).symm) ?_
          have hT : L71 = L122 ++ w121.1 := by rw [hT122, eL122]
          have h2 : y69.2 = w121.2 := by rw [h2, ew121]
          have hl := lv_sub (l' := [(10, .int s38.2.1), (9, .int x30), (7, .int s19.2.1), (6, .int x9), (5, .int x8), (4, .int x7), (3, .int x5), (0, .ref (ad62 a))]) hl [0, 1, 2, 3, 4, 5, 6, 7] rfl
          have e9 : ([(10, .int s38.2.1), (9, .int x30), (7, .int s19.2.1), (6, .int x9), (5, .int x8), (4, .int x7), (3, .int x5), (0, .ref (ad62 a))] : List (Nat × Value)) = [(10, .int s38.2.1), (9, .int x30), (7, .int s19.2.1), (6, .int x9), (5, .int x8), (4, .int x7), (3, .int x5), (0, .ref (ad123 a))] := (by first | rfl | simp only [hn124 a hc])
          rw [e9] at hl
          clear e9
          have hk : (xt G L122).2.1 a = 0 := by rw [eL122]; exact xt_k _ hc hk
          have hc : a < (xt G L122).1 := by rw [eL122]; exact xt_l _ hc
          have hk2 : (xt G L122).2.1 b2 = 13 := by rw [eL122]; exact xt_k _ hc2 hk2
          have hc2 : b2 < (xt G L122).1 := by rw [eL122]; exact xt_l _ hc2
          have hk6 : (xt G L122).2.1 b6 = 10 := by rw [eL122]; exact xt_k _ hc6 hk6
          have hc6 : b6 < (xt G L122).1 := by rw [eL122]; exact xt_l _ hc6
          have hk31 : (xt G L122).2.1 b31 = 10 := by rw [eL122]; exact xt_k _ hc31 hk31
          have hc31 : b31 < (xt G L122).1 := by rw [eL122]; exact xt_l _ hc31
          have hk33 : (xt G L122).2.1 b33 = 10 := by rw [eL122]; exact xt_k _ hc33 hk33
          have hc33 : b33 < (xt G L122).1 := by rw [eL122]; exact xt_l _ hc33
          have hag := agr_t (xt_ge _ _) hag hn124
          obtain rfl := Option.some.inj hF
          have e1 : L71 = L122 := by rw [hT]; exact List.append_nil _
          have e2 : y69.2 = y120.2 := h2
          rw [e1] at J69
          try rw [e2] at J69
          exact J69 _ hag _ _ _ hP hD hS (lv_sub hl [0, 1, 2, 3, 4, 5, 6, 7] rfl)
  clear hF
  have hF := hy10
  clear hy10
  refine lv_icmp_ne (tgt := 52) hx hb dX0_codePicture_45 (by decide) (fun c125 => ?_) (fun c125 => ?_)
  · rw [if_neg c125] at hF
    refine lv_iload_n hx hb dX0_codePicture_52 rfl (lv_at hl 6 rfl) ?_
    obtain ⟨y126, hy126, hF⟩ := bnd_some hF
    have J126 : ∀ (H : Heap) (locs : List Loc) (ls : Array Slot), va_P D classes (wld ct ad (xt G []) M) H → va_D A (wld ct ad (xt G []) M) → va_S A s.heap H locs → lv_has ls 12 [(6, .int x9), (5, .int x8), (4, .int x7), (3, .int x5), (0, .ref (ad a)), (1, .int p0), (2, .int p1)] → W p l e (headSpec wuX0_codePicture ({ frames := 8, cells := y.1.length, slots := wt y.1, locals := 241 })).room s m ([.ref (ad a), .int p0, .int p1] : List Value).toArray below meth c H locs ([] : NN).length (wt []) (MQ below (va_Qv (fun (u : Nat → Nat) => agr G.1 ad u) (fun u t => kE D ct u (xt G y.1) A y.2 t) A) ([.ref (ad a), .int p0, .int p1] : List Value).toArray s y.1.length (wt y.1) A) (F0 m 61 ls [.int y126, .int (3 : Int32), va_re ad (M.2 a 1)]) := by
      intro H locs ls hP hD hS hl
      obtain rfl := Option.some.inj hF
      exact J10 _ _ _ hP hD hS (lv_sub hl [0, 1, 2, 3, 4, 5, 6] rfl)
    clear hF
    have hF := hy126
    clear hy126
    refine lv_if_ne (tgt := 60) hx hb dX0_codePicture_53 (by decide) (fun c127 => ?_) (fun c127 => ?_)
    · rw [if_neg c127] at hF
      refine lv_iconst (v := (2 : Int32)) hx hb dX0_codePicture_60 (by decide) ?_
      obtain rfl := Option.some.inj hF
      exact J126 _ _ _ hP hD hS (lv_sub hl [0, 1, 2, 3, 4, 5, 6] rfl)
    · rw [if_pos c127] at hF
      refine lv_iconst (v := (1 : Int32)) hx hb dX0_codePicture_56 (by decide) ?_
      refine lv_goto (tgt := 61) hx hb dX0_codePicture_57 (by decide) ?_
      obtain rfl := Option.some.inj hF
      exact J126 _ _ _ hP hD hS (lv_sub hl [0, 1, 2, 3, 4, 5, 6] rfl)
  · rw [if_pos c125] at hF
    refine lv_iconst (v := (0 : Int32)) hx hb dX0_codePicture_48 (by decide) ?_
    refine lv_goto (tgt := 61) hx hb dX0_codePicture_49 (by decide) ?_
    obtain rfl := Option.some.inj hF
    exact J10 _ _ _ hP hD hS (lv_sub hl [0, 1, 2, 3, 4, 5, 6] rfl)
set_option maxRecDepth 20000 in
theorem gX11_encode_X0_isOpen : GoodIn wuX11_encode (wsV RX11 324 RX0 yX0_isOpen wuX0_isOpen) := gu_V mw_2366 mw_2367 mw_2368 mw_175 mw_2369
set_option maxRecDepth 20000 in
set_option maxRecDepth 20000 in
theorem gX11_encode_X0_isSpent : GoodIn wuX11_encode (wsV RX11 350 RX0 yX0_isSpent wuX0_isSpent) := gu_V mw_2414 mw_2415 mw_2416 mw_175 mw_2417
set_option maxRecDepth 20000 in
set_option maxRecDepth 20000 in
theorem gX11_encode_X0_hold : GoodIn wuX11_encode (wsV RX11 355 RX0 yX0_hold wuX0_hold) := gu_V mw_2420 mw_2421 mw_2422 mw_175 mw_2423
set_option maxRecDepth 20000 in
set_option maxRecDepth 20000 in
theorem gX11_encode_X0_opensAnew : GoodIn wuX11_encode (wsV RX11 358 RX0 yX0_opensAnew wuX0_opensAnew) := gu_V mw_2424 mw_2425 mw_2426 mw_175 mw_2427
set_option maxRecDepth 20000 in
set_option maxRecDepth 20000 in
theorem gX11_encode_X0_codePicture : GoodIn wuX11_encode (wsV RX11 364 RX0 yX0_codePicture wuX0_codePicture) := gu_V mw_2428 mw_2429 mw_2430 mw_175 mw_2431
theorem dX11_encode_0 : decode cX11_encode 0 = .ok (.aload_n 0, 1) := by decide +kernel
theorem dX11_encode_1 : decode cX11_encode 1 = .ok (.getfield 31, 3) := by decide +kernel
theorem dX11_encode_4 : decode cX11_encode 4 = .ok (.invokevirtual 324, 3) := by decide +kernel
theorem dX11_encode_7 : decode cX11_encode 7 = .ok (.ifCond .eq 13, 3) := by decide +kernel
theorem dX11_encode_10 : decode cX11_encode 10 = .ok (.aload_n 0, 1) := by decide +kernel
theorem dX11_encode_11 : decode cX11_encode 11 = .ok (.getfield 31, 3) := by decide +kernel
theorem dX11_encode_14 : decode cX11_encode 14 = .ok (.invokevirtual 350, 3) := by decide +kernel
theorem dX11_encode_17 : decode cX11_encode 17 = .ok (.ifCond .eq 14, 3) := by decide +kernel
theorem dX11_encode_20 : decode cX11_encode 20 = .ok (.new 40, 3) := by decide +kernel
theorem dX11_encode_23 : decode cX11_encode 23 = .ok (.dup, 1) := by decide +kernel
theorem dX11_encode_24 : decode cX11_encode 24 = .ok (.ldc_w 353, 3) := by decide +kernel
theorem dX11_encode_27 : decode cX11_encode 27 = .ok (.invokespecial 44, 3) := by decide +kernel
theorem dX11_encode_30 : decode cX11_encode 30 = .ok (.athrow, 1) := by decide +kernel
theorem dX11_encode_31 : decode cX11_encode 31 = .ok (.aload_n 0, 1) := by decide +kernel
theorem dX11_encode_32 : decode cX11_encode 32 = .ok (.getfield 31, 3) := by decide +kernel
theorem dX11_encode_35 : decode cX11_encode 35 = .ok (.invokevirtual 355, 3) := by decide +kernel
theorem dX11_encode_38 : decode cX11_encode 38 = .ok (.aload_n 0, 1) := by decide +kernel
theorem dX11_encode_39 : decode cX11_encode 39 = .ok (.getfield 31, 3) := by decide +kernel
theorem dX11_encode_42 : decode cX11_encode 42 = .ok (.invokevirtual 358, 3) := by decide +kernel
theorem dX11_encode_45 : decode cX11_encode 45 = .ok (.ifCond .eq 55, 3) := by decide +kernel
theorem dX11_encode_48 : decode cX11_encode 48 = .ok (.aload_n 0, 1) := by decide +kernel
theorem dX11_encode_49 : decode cX11_encode 49 = .ok (.getfield 31, 3) := by decide +kernel
theorem dX11_encode_52 : decode cX11_encode 52 = .ok (.getfield 361, 3) := by decide +kernel
theorem dX11_encode_55 : decode cX11_encode 55 = .ok (.iconst 1, 1) := by decide +kernel
theorem dX11_encode_56 : decode cX11_encode 56 = .ok (.isub, 1) := by decide +kernel
theorem dX11_encode_57 : decode cX11_encode 57 = .ok (.istore_n 1, 1) := by decide +kernel
theorem dX11_encode_58 : decode cX11_encode 58 = .ok (.iconst 0, 1) := by decide +kernel
theorem dX11_encode_59 : decode cX11_encode 59 = .ok (.istore_n 2, 1) := by decide +kernel
theorem dX11_encode_60 : decode cX11_encode 60 = .ok (.iload_n 2, 1) := by decide +kernel
theorem dX11_encode_61 : decode cX11_encode 61 = .ok (.iload_n 1, 1) := by decide +kernel
theorem dX11_encode_62 : decode cX11_encode 62 = .ok (.if_icmp .ge 18, 3) := by decide +kernel
theorem dX11_encode_65 : decode cX11_encode 65 = .ok (.aload_n 0, 1) := by decide +kernel
theorem dX11_encode_66 : decode cX11_encode 66 = .ok (.getfield 31, 3) := by decide +kernel
theorem dX11_encode_69 : decode cX11_encode 69 = .ok (.iload_n 2, 1) := by decide +kernel
theorem dX11_encode_70 : decode cX11_encode 70 = .ok (.iconst 0, 1) := by decide +kernel
theorem dX11_encode_71 : decode cX11_encode 71 = .ok (.invokevirtual 364, 3) := by decide +kernel
theorem dX11_encode_74 : decode cX11_encode 74 = .ok (.iinc 2 1, 3) := by decide +kernel
theorem dX11_encode_77 : decode cX11_encode 77 = .ok (.goto (-17), 3) := by decide +kernel
theorem dX11_encode_80 : decode cX11_encode 80 = .ok (.aload_n 0, 1) := by decide +kernel
theorem dX11_encode_81 : decode cX11_encode 81 = .ok (.getfield 31, 3) := by decide +kernel
theorem dX11_encode_84 : decode cX11_encode 84 = .ok (.iload_n 1, 1) := by decide +kernel
theorem dX11_encode_85 : decode cX11_encode 85 = .ok (.iconst 2, 1) := by decide +kernel
theorem dX11_encode_86 : decode cX11_encode 86 = .ok (.invokevirtual 364, 3) := by decide +kernel
theorem dX11_encode_89 : decode cX11_encode 89 = .ok (.aload_n 0, 1) := by decide +kernel
theorem dX11_encode_90 : decode cX11_encode 90 = .ok (.getfield 31, 3) := by decide +kernel
theorem dX11_encode_93 : decode cX11_encode 93 = .ok (.iconst 0, 1) := by decide +kernel
theorem dX11_encode_94 : decode cX11_encode 94 = .ok (.putfield 361, 3) := by decide +kernel
theorem dX11_encode_97 : decode cX11_encode 97 = .ok (.goto 72, 3) := by decide +kernel
theorem dX11_encode_100 : decode cX11_encode 100 = .ok (.aload_n 0, 1) := by decide +kernel
theorem dX11_encode_101 : decode cX11_encode 101 = .ok (.getfield 31, 3) := by decide +kernel
theorem dX11_encode_104 : decode cX11_encode 104 = .ok (.getfield 361, 3) := by decide +kernel
theorem dX11_encode_107 : decode cX11_encode 107 = .ok (.aload_n 0, 1) := by decide +kernel
theorem dX11_encode_108 : decode cX11_encode 108 = .ok (.getfield 31, 3) := by decide +kernel
theorem dX11_encode_111 : decode cX11_encode 111 = .ok (.getfield 367, 3) := by decide +kernel
theorem dX11_encode_114 : decode cX11_encode 114 = .ok (.bipush 6, 2) := by decide +kernel
theorem dX11_encode_116 : decode cX11_encode 116 = .ok (.iaload, 1) := by decide +kernel
theorem dX11_encode_117 : decode cX11_encode 117 = .ok (.if_icmp .le 52, 3) := by decide +kernel
theorem dX11_encode_120 : decode cX11_encode 120 = .ok (.aload_n 0, 1) := by decide +kernel
theorem dX11_encode_121 : decode cX11_encode 121 = .ok (.getfield 31, 3) := by decide +kernel
theorem dX11_encode_124 : decode cX11_encode 124 = .ok (.getfield 361, 3) := by decide +kernel
theorem dX11_encode_127 : decode cX11_encode 127 = .ok (.iconst 1, 1) := by decide +kernel
theorem dX11_encode_128 : decode cX11_encode 128 = .ok (.isub, 1) := by decide +kernel
theorem dX11_encode_129 : decode cX11_encode 129 = .ok (.istore_n 1, 1) := by decide +kernel
theorem dX11_encode_130 : decode cX11_encode 130 = .ok (.aload_n 0, 1) := by decide +kernel
theorem dX11_encode_131 : decode cX11_encode 131 = .ok (.getfield 31, 3) := by decide +kernel
theorem dX11_encode_134 : decode cX11_encode 134 = .ok (.iload_n 1, 1) := by decide +kernel
theorem dX11_encode_135 : decode cX11_encode 135 = .ok (.iconst 0, 1) := by decide +kernel
theorem dX11_encode_136 : decode cX11_encode 136 = .ok (.invokevirtual 364, 3) := by decide +kernel
theorem dX11_encode_139 : decode cX11_encode 139 = .ok (.iconst 0, 1) := by decide +kernel
theorem dX11_encode_140 : decode cX11_encode 140 = .ok (.istore_n 2, 1) := by decide +kernel
theorem dX11_encode_141 : decode cX11_encode 141 = .ok (.iload_n 2, 1) := by decide +kernel
theorem dX11_encode_142 : decode cX11_encode 142 = .ok (.iload_n 1, 1) := by decide +kernel
theorem dX11_encode_143 : decode cX11_encode 143 = .ok (.if_icmp .ge 18, 3) := by decide +kernel
theorem dX11_encode_146 : decode cX11_encode 146 = .ok (.aload_n 0, 1) := by decide +kernel
theorem dX11_encode_147 : decode cX11_encode 147 = .ok (.getfield 31, 3) := by decide +kernel
theorem dX11_encode_150 : decode cX11_encode 150 = .ok (.iload_n 2, 1) := by decide +kernel
theorem dX11_encode_151 : decode cX11_encode 151 = .ok (.iconst 1, 1) := by decide +kernel
theorem dX11_encode_152 : decode cX11_encode 152 = .ok (.invokevirtual 364, 3) := by decide +kernel
theorem dX11_encode_155 : decode cX11_encode 155 = .ok (.iinc 2 1, 3) := by decide +kernel
theorem dX11_encode_158 : decode cX11_encode 158 = .ok (.goto (-17), 3) := by decide +kernel
theorem dX11_encode_161 : decode cX11_encode 161 = .ok (.aload_n 0, 1) := by decide +kernel
theorem dX11_encode_162 : decode cX11_encode 162 = .ok (.getfield 31, 3) := by decide +kernel
theorem dX11_encode_165 : decode cX11_encode 165 = .ok (.iconst 0, 1) := by decide +kernel
theorem dX11_encode_166 : decode cX11_encode 166 = .ok (.putfield 361, 3) := by decide +kernel
theorem dX11_encode_169 : decode cX11_encode 169 = .ok (.aload_n 0, 1) := by decide +kernel
theorem dX11_encode_170 : decode cX11_encode 170 = .ok (.getfield 31, 3) := by decide +kernel
theorem dX11_encode_173 : decode cX11_encode 173 = .ok (.getfield 370, 3) := by decide +kernel
theorem dX11_encode_176 : decode cX11_encode 176 = .ok (.ireturn, 1) := by decide +kernel
noncomputable def FX11_encode (G : GG) (M : DD) (a : Nat)  : Option (NN × DD × Int32) :=
  dr (xt G []) 0 ((M.2 a 4)) fun b2 =>
  bnd (FX0_isOpen (xt G []) M b2) fun y3 =>
  bnd (if y3.2 = ((0 : Int32)) then (none) else
  (some ())) fun (y4 : Unit) =>
  dr (xt G []) 0 ((y3.1.2 a 4)) fun b5 =>
  bnd (FX0_isSpent (xt G []) y3.1 b5) fun y6 =>
  bnd (if y6.2 = ((0 : Int32)) then (some ()) else
  (none)) fun (y7 : Unit) =>
  dr (xt G []) 0 ((y6.1.2 a 4)) fun b8 =>
  bnd (FX0_hold (xt G []) y6.1 b8) fun y9 =>
  dr (xt G []) 0 ((y9.2 a 4)) fun b10 =>
  bnd (FX0_opensAnew (xt G []) y9 b10) fun y11 =>
  bnd (if y11.2 = ((0 : Int32)) then (dr (xt G []) 0 ((y11.1.2 a 4)) fun b20 =>
  ltt (y11.1.1 b20 10) fun x21 =>
  dr (xt G []) 13 ((y11.1.2 b20 1)) fun b22 =>
  chk (¬ (((6 : Int32)) < 0 ∨ (xt G []).2.2 b22 ≤ ((6 : Int32)).toNatClampNeg)) <|
  ltt (y11.1.1 b22 ((6 : Int32)).toNatClampNeg) fun x23 =>
  bnd (if x21 ≤ x23 then (some ([], y11.1)) else
  (ltt (y11.1.1 b20 10) fun x30 =>
  ltt ((x30 - ((1 : Int32)))) fun x31 =>
  bnd (FX0_codePicture (xt G []) y11.1 b20 x31 ((0 : Int32))) fun y32 =>
  app y32.1 <|
  ltt ([] ++ y32.1) fun L34 =>
  bnd (itrA (fun (s38 : NN × Int32 × DD) => ((if x31 ≤ s38.2.1 then (some ([], .inr ((s38.2.1, s38.2.2)))) else
  (dr (xt G s38.1) 0 ((s38.2.2.2 a 4)) fun b50 =>
  bnd (FX0_codePicture (xt G s38.1) s38.2.2 b50 s38.2.1 ((1 : Int32))) fun y51 =>
  app y51.1 <|
  ltt (s38.1 ++ y51.1) fun L53 =>
  ltt (s38.2.1 + (1 : Int32)) fun x56 =>
  some ([], .inl (L53, (x56, y51.2))))) : Option (NN × ((NN × Int32 × DD) ⊕ (Int32 × DD))))) 1000000 (L34, ((0 : Int32), y32.2))) fun (y37 : NN × Int32 × DD) =>
  app y37.1 <|
  ltt (L34 ++ y37.1) fun L40 =>
  dr (xt G L40) 0 ((y37.2.2.2 a 4)) fun b42 =>
  ltt (uI y37.2.2 b42 10 ((0 : Int32))) fun M43 =>
  some ([], M43))) fun (y24 : NN × DD) =>
  app y24.1 <|
  ltt ([] ++ y24.1) fun L26 =>
  some ([], y24.2)) else
  (dr (xt G []) 0 ((y11.1.2 a 4)) fun b57 =>
  ltt (y11.1.1 b57 10) fun x58 =>
  ltt ((x58 - ((1 : Int32)))) fun x59 =>
  bnd (itrA (fun (s61 : NN × Int32 × DD) => ((if x59 ≤ s61.2.1 then (some ([], .inr ((s61.2.1, s61.2.2)))) else
  (dr (xt G s61.1) 0 ((s61.2.2.2 a 4)) fun b79 =>
  bnd (FX0_codePicture (xt G s61.1) s61.2.2 b79 s61.2.1 ((0 : Int32))) fun y80 =>
  app y80.1 <|
  ltt (s61.1 ++ y80.1) fun L82 =>
  ltt (s61.2.1 + (1 : Int32)) fun x85 =>
  some ([], .inl (L82, (x85, y80.2))))) : Option (NN × ((NN × Int32 × DD) ⊕ (Int32 × DD))))) 1000000 ([], ((0 : Int32), y11.1))) fun (y60 : NN × Int32 × DD) =>
  app y60.1 <|
  ltt ([] ++ y60.1) fun L63 =>
  dr (xt G L63) 0 ((y60.2.2.2 a 4)) fun b65 =>
  bnd (FX0_codePicture (xt G L63) y60.2.2 b65 x59 ((2 : Int32))) fun y66 =>
  app y66.1 <|
  ltt (L63 ++ y66.1) fun L68 =>
  dr (xt G L68) 0 ((y66.2.2 a 4)) fun b71 =>
  ltt (uI y66.2 b71 10 ((0 : Int32))) fun M72 =>
  some ([], M72))) fun (y12 : NN × DD) =>
  app y12.1 <|
  ltt ([] ++ y12.1) fun L14 =>
  dr (xt G L14) 0 ((y12.2.2 a 4)) fun b16 =>
  ltt (y12.2.1 b16 16) fun x17 =>
  some ([], (y12.2, x17))
set_option maxHeartbeats 4000000 in
set_option maxRecDepth 100000 in
theorem kX11_encode (l : Launch) (D : va_G) (ct : CT) (ad : Nat → Nat) (Z : Nat → Nat) (G : GG) (M : DD) (sz : Nat) (a : Nat)  (y : NN × DD × Int32) (hc : a < G.1) (hk : G.2.1 a = 11) (hF : FX11_encode G M a  = some y) : Met l yX11_encode wuX11_encode ({ frames := 9, cells := y.1.length, slots := wt y.1, locals := 272 }) (va_Pc [.ref (ad a)] (kB D ct ad Z G M sz)) (va_Qi (fun (q : Int32) (u : Nat → Nat) => q = y.2.2 ∧ agr G.1 ad u) (fun u t => kE D ct u (xt G y.1) (wA ad G sz) y.2.1 t) (wA ad G sz)) y.1.length (wt y.1) (wA ad G sz) := by
  refine Met.ofW (cc := cX11_encode) (maxL := 3) (ret := (some .int)) (by decide) rfl ?_
  intro p e s m args below meth c s₁ B hml hv
  obtain ⟨rfl, hsz, hP, hK, hD0, hZ, hN⟩ := hv
  have hx := B.exec
  have hb := B.bytes
  have hr := B.returns
  have hts := atoms_spec (ws := wuX11_encode) B.pre
  have hown : s.vm.findClass RX11 = some m.cls := findClass_of_methodNamed B.named
  have hlocks := B.notSynchronized
  subst hsz
  have hD := wD_self (sz := s.heap.size) hD0
  have hA9 : ∀ q, s.heap.size ≤ q → wA ad G s.heap.size q := fun q h => Or.inr h
  generalize hAe : wA ad G s.heap.size = A at hD hA9 hZ ⊢
  have hS : va_S A s.heap s.heap [] := va_S.rf
  have hl := lv_entry ([.ref (ad a)]) (n := 3) (Nat.le_of_ble_eq_true rfl)
  rw [lg_entry_eq]
  generalize (lg_sl ([.ref (ad a)]) ++ List.replicate (3 - (lg_sl ([.ref (ad a)])).length) Slot.unset).toArray = ls at hl ⊢
  have hl : lv_has ls 3 [(0, .ref (ad a))] := hl
  unfold FX11_encode at hF
  rw [← wld_0 ct ad G M] at hP hD
  have hk := xt_k0 hc hk
  have hc := xt_l0 hc
  have hag := agr_rf G.1 ad
  obtain ⟨w0, hw0⟩ : ∃ z, z = y := ⟨_, rfl⟩
  rw [← hw0] at hF
  have hT : y.1 = [] ++ w0.1 := by rw [hw0]; rfl
  have h2 : y.2 = w0.2 := by rw [hw0]
  have hbl : y.1.length ≤ y.1.length ∧ wt y.1 ≤ wt y.1 := ⟨Nat.le_refl _, Nat.le_refl _⟩
  refine lv_aload_n hx hb dX11_encode_0 rfl (lv_at hl 0 rfl) ?_
  refine va_get (D := D) (ci := 11) (v := va_re ad (M.2 a 4)) (C := RX11) (T := TX11) (N := 5) hx hb hts (mus hf_X11) hown hK hP a (wld_o ct ad (xt G []) M hc hk (by decide)) rfl 4 (by decide) (hts (.fieldLink RX11 31 "VideoSuite" "coder" "LVideoSuite$Coder;") (mu mw_886)) (fun _ h9 => h9) rfl dX11_encode_1 ?_
  obtain ⟨b2, ho2, hc2, hk2, hF⟩ := dr_some hF
  refine W_st (st' := [.ref (ad b2)]) (by rw [va_some ho2]) ?_
  obtain ⟨y3, hy3, hF⟩ := bnd_some hF
  have hf9 := wA_in hD hA9 hS
  refine va_calli (va_runV (As := []) (rest := []) ⟨hx, hb, hml, hown, hts⟩ (kX0_isOpen l D ct ad Z (xt G []) M s.heap.size b2 y3 hc2 hk2 hy3) (cwV 0 hts gX11_encode_X0_isOpen rfl rfl rfl (by decide +kernel) ⟨Nat.le_of_ble_eq_true rfl, Nat.le_of_ble_eq_true rfl⟩) ⟨fun a U g mk q => by obtain ⟨q0, q1, qP, qK, qD, qZ, qN⟩ := q; exact ⟨q0, q1, qP, va_K.moved (u := U) (U := U.calling g mk a) (Vm.Alike.refl U.vm) qK, qD, sF.moved (u := U) (U := U.calling g mk a) (Vm.Alike.refl U.vm) qZ, nF.same rfl qN⟩, va_recv hK hP (ci := 0) (q0 := b2) rfl (wld_o ct ad (xt G []) M hc2 hk2 (by decide)), fun U hU hW => ⟨rfl, by rw [hU], by rw [hU]; exact hP, va_K.moved hW.alike hK, hD.weaken (fun _ _ _ _ => trivial), by rw [hU]; exact ((hZ.kept hS.2.1).narrow hf9).moved hW.alike, hN.warm hW⟩⟩ rfl rfl hl.1 rfl (lv_room (Nat.le_of_ble_eq_true rfl)) dX11_encode_4 (room_d hT hbl)) hS (fun q _ h => hf9 q h) hf9 (fun r u t H locs ht hvm hw hB hz1 hk1 hS => ?_)
  obtain ⟨hP, hK9, hD9⟩ := hB
  rw [ht] at hP
  try dsimp only at hw
  subst hw
  refine W_cs (k := ([] : NN).length) (n := wt []) rfl rfl ?_
  have hD := hD9.weaken (fun _ q _ h => hf9 q.1 h)
  obtain ⟨y4, hy4, hF⟩ := bnd_some hF
  have J4 : ∀ (H : Heap) (locs : List Loc) (ls : Array Slot), va_P D classes (wld ct ad (xt G []) y3.1) H → va_D A (wld ct ad (xt G []) y3.1) → va_S A s.heap H locs → lv_has ls 3 [(0, .ref (ad a))] → W p l e (headSpec wuX11_encode ({ frames := 9, cells := y.1.length, slots := wt y.1, locals := 272 })).room s m ([.ref (ad a)] : List Value).toArray below meth c H locs ([] : NN).length (wt []) (MQ below (va_Qi (fun (q : Int32) (u : Nat → Nat) => q = y.2.2 ∧ agr G.1 ad u) (fun u t => kE D ct u (xt G y.1) A y.2.1 t) A) ([.ref (ad a)] : List Value).toArray s y.1.length (wt y.1) A) (F0 m 10 ls []) := by
    intro H locs ls hP hD hS hl
    refine lv_aload_n hx hb dX11_encode_10 rfl (lv_at hl 0 rfl) ?_
    refine va_get (D := D) (ci := 11) (v := va_re ad (y3.1.2 a 4)) (C := RX11) (T := TX11) (N := 5) hx hb hts (mus hf_X11) hown hK hP a (wld_o ct ad (xt G []) y3.1 hc hk (by decide)) rfl 4 (by decide) (hts (.fieldLink RX11 31 "VideoSuite" "coder" "LVideoSuite$Coder;") (mu mw_886)) (fun _ h9 => h9) rfl dX11_encode_11 ?_
    obtain ⟨b5, ho5, hc5, hk5, hF⟩ := dr_some hF
    refine W_st (st' := [.ref (ad b5)]) (by rw [va_some ho5]) ?_
    obtain ⟨y6, hy6, hF⟩ := bnd_some hF
    have hf9 := wA_in hD hA9 hS
    refine va_calli (va_runV (As := []) (rest := []) ⟨hx, hb, hml, hown, hts⟩ (kX0_isSpent l D ct ad Z (xt G []) y3.1 H.size b5 y6 hc5 hk5 hy6) (cwV 0 hts gX11_encode_X0_isSpent rfl rfl rfl (by decide +kernel) ⟨Nat.le_of_ble_eq_true rfl, Nat.le_of_ble_eq_true rfl⟩) ⟨fun a U g mk q => by obtain ⟨q0, q1, qP, qK, qD, qZ, qN⟩ := q; exact ⟨q0, q1, qP, va_K.moved (u := U) (U := U.calling g mk a) (Vm.Alike.refl U.vm) qK, qD, sF.moved (u := U) (U := U.calling g mk a) (Vm.Alike.refl U.vm) qZ, nF.same rfl qN⟩, va_recv hK hP (ci := 0) (q0 := b5) rfl (wld_o ct ad (xt G []) y3.1 hc5 hk5 (by decide)), fun U hU hW => ⟨rfl, by rw [hU], by rw [hU]; exact hP, va_K.moved hW.alike hK, hD.weaken (fun _ _ _ _ => trivial), by rw [hU]; exact ((hZ.kept hS.2.1).narrow hf9).moved hW.alike, hN.warm hW⟩⟩ rfl rfl hl.1 rfl (lv_room (Nat.le_of_ble_eq_true rfl)) dX11_encode_14 (room_d hT hbl)) hS (fun q _ h => hf9 q h) hf9 (fun r u t H locs ht hvm hw hB hz1 hk1 hS => ?_)
    obtain ⟨hP, hK9, hD9⟩ := hB
    rw [ht] at hP
    try dsimp only at hw
    subst hw
    refine W_cs (k := ([] : NN).length) (n := wt []) rfl rfl ?_
    have hD := hD9.weaken (fun _ q _ h => hf9 q.1 h)
    obtain ⟨y7, hy7, hF⟩ := bnd_some hF
    have J7 : ∀ (H : Heap) (locs : List Loc) (ls : Array Slot), va_P D classes (wld ct ad (xt G []) y6.1) H → va_D A (wld ct ad (xt G []) y6.1) → va_S A s.heap H locs → lv_has ls 3 [(0, .ref (ad a))] → W p l e (headSpec wuX11_encode ({ frames := 9, cells := y.1.length, slots := wt y.1, locals := 272 })).room s m ([.ref (ad a)] : List Value).toArray below meth c H locs ([] : NN).length (wt []) (MQ below (va_Qi (fun (q : Int32) (u : Nat → Nat) => q = y.2.2 ∧ agr G.1 ad u) (fun u t => kE D ct u (xt G y.1) A y.2.1 t) A) ([.ref (ad a)] : List Value).toArray s y.1.length (wt y.1) A) (F0 m 31 ls []) := by
      intro H locs ls hP hD hS hl
      refine lv_aload_n hx hb dX11_encode_31 rfl (lv_at hl 0 rfl) ?_
      refine va_get (D := D) (ci := 11) (v := va_re ad (y6.1.2 a 4)) (C := RX11) (T := TX11) (N := 5) hx hb hts (mus hf_X11) hown hK hP a (wld_o ct ad (xt G []) y6.1 hc hk (by decide)) rfl 4 (by decide) (hts (.fieldLink RX11 31 "VideoSuite" "coder" "LVideoSuite$Coder;") (mu mw_886)) (fun _ h9 => h9) rfl dX11_encode_32 ?_
      obtain ⟨b8, ho8, hc8, hk8, hF⟩ := dr_some hF
      refine W_st (st' := [.ref (ad b8)]) (by rw [va_some ho8]) ?_
      obtain ⟨y9, hy9, hF⟩ := bnd_some hF
      have hf9 := wA_in hD hA9 hS
      refine va_callv (va_runV (As := []) (rest := []) ⟨hx, hb, hml, hown, hts⟩ (kX0_hold l D ct ad Z (xt G []) y6.1 H.size b8 y9 hc8 hk8 hy9) (cwV 0 hts gX11_encode_X0_hold rfl rfl rfl (by decide +kernel) ⟨Nat.le_of_ble_eq_true rfl, Nat.le_of_ble_eq_true rfl⟩) ⟨fun a U g mk q => by obtain ⟨q0, q1, qP, qK, qD, qZ, qN⟩ := q; exact ⟨q0, q1, qP, va_K.moved (u := U) (U := U.calling g mk a) (Vm.Alike.refl U.vm) qK, qD, sF.moved (u := U) (U := U.calling g mk a) (Vm.Alike.refl U.vm) qZ, nF.same rfl qN⟩, va_recv hK hP (ci := 0) (q0 := b8) rfl (wld_o ct ad (xt G []) y6.1 hc8 hk8 (by decide)), fun U hU hW => ⟨rfl, by rw [hU], by rw [hU]; exact hP, va_K.moved hW.alike hK, hD.weaken (fun _ _ _ _ => trivial), by rw [hU]; exact ((hZ.kept hS.2.1).narrow hf9).moved hW.alike, hN.warm hW⟩⟩ rfl rfl hl.1 rfl (lv_room (Nat.le_of_ble_eq_true rfl)) dX11_encode_35 (room_d hT hbl)) hS (fun q _ h => hf9 q h) hf9 (fun u t H locs ht hvm hw hB hz1 hk1 hS => ?_)
      obtain ⟨hP, hK9, hD9⟩ := hB
      rw [ht] at hP
      refine W_cs (k := ([] : NN).length) (n := wt []) rfl rfl ?_
      have hD := hD9.weaken (fun _ q _ h => hf9 q.1 h)
      refine lv_aload_n hx hb dX11_encode_38 rfl (lv_at hl 0 rfl) ?_
      refine va_get (D := D) (ci := 11) (v := va_re ad (y9.2 a 4)) (C := RX11) (T := TX11) (N := 5) hx hb hts (mus hf_X11) hown hK hP a (wld_o ct ad (xt G []) y9 hc hk (by decide)) rfl 4 (by decide) (hts (.fieldLink RX11 31 "VideoSuite" "coder" "LVideoSuite$Coder;") (mu mw_886)) (fun _ h9 => h9) rfl dX11_encode_39 ?_
      obtain ⟨b10, ho10, hc10, hk10, hF⟩ := dr_some hF
      refine W_st (st' := [.ref (ad b10)]) (by rw [va_some ho10]) ?_
      obtain ⟨y11, hy11, hF⟩ := bnd_some hF
      have hf9 := wA_in hD hA9 hS
      refine va_calli (va_runV (As := []) (rest := []) ⟨hx, hb, hml, hown, hts⟩ (kX0_opensAnew l D ct ad Z (xt G []) y9 H.size b10 y11 hc10 hk10 hy11) (cwV 0 hts gX11_encode_X0_opensAnew rfl rfl rfl (by decide +kernel) ⟨Nat.le_of_ble_eq_true rfl, Nat.le_of_ble_eq_true rfl⟩) ⟨fun a U g mk q => by obtain ⟨q0, q1, qP, qK, qD, qZ, qN⟩ := q; exact ⟨q0, q1, qP, va_K.moved (u := U) (U := U.calling g mk a) (Vm.Alike.refl U.vm) qK, qD, sF.moved (u := U) (U := U.calling g mk a) (Vm.Alike.refl U.vm) qZ, nF.same rfl qN⟩, va_recv hK hP (ci := 0) (q0 := b10) rfl (wld_o ct ad (xt G []) y9 hc10 hk10 (by decide)), fun U hU hW => ⟨rfl, by rw [hU], by rw [hU]; exact hP, va_K.moved hW.alike hK, hD.weaken (fun _ _ _ _ => trivial), by rw [hU]; exact ((hZ.kept hS.2.1).narrow hf9).moved hW.alike, hN.warm hW⟩⟩ rfl rfl hl.1 rfl (lv_room (Nat.le_of_ble_eq_true rfl)) dX11_encode_42 (room_d hT hbl)) hS (fun q _ h => hf9 q h) hf9 (fun r u t H locs ht hvm hw hB hz1 hk1 hS => ?_)
      obtain ⟨hP, hK9, hD9⟩ := hB
      rw [ht] at hP
      try dsimp only at hw
      subst hw
      refine W_cs (k := ([] : NN).length) (n := wt []) rfl rfl ?_
      have hD := hD9.weaken (fun _ q _ h => hf9 q.1 h)
      obtain ⟨y12, hy12, hF⟩ := bnd_some hF
      obtain ⟨w13, hF, ew13⟩ := app_some hF
      obtain ⟨L14, eL14, hF⟩ := ltt_some hF
      have hT14 : y.1 = ([] ++ y12.1) ++ w13.1 := by rw [hT, ew13]; simp only [List.append_assoc]
      have hbl14 : L14.length ≤ y.1.length ∧ wt L14 ≤ wt y.1 := by rw [eL14]; exact room_d hT14 hbl
      have J12 : ∀ (ad15 : Nat → Nat), agr G.1 ad ad15 → ∀ (H : Heap) (locs : List Loc) (ls : Array Slot), va_P D classes (wld ct ad15 (xt G L14) y12.2) H → va_D A (wld ct ad15 (xt G L14) y12.2) → va_S A s.heap H locs → lv_has ls 3 [(0, .ref (ad15 a))] → W p l e (headSpec wuX11_encode ({ frames := 9, cells := y.1.length, slots := wt y.1, locals := 272 })).room s m ([.ref (ad a)] : List Value).toArray below meth c H locs (L14 : NN).length (wt L14) (MQ below (va_Qi (fun (q : Int32) (u : Nat → Nat) => q = y.2.2 ∧ agr G.1 ad u) (fun u t => kE D ct u (xt G y.1) A y.2.1 t) A) ([.ref (ad a)] : List Value).toArray s y.1.length (wt y.1) A) (F0 m 169 ls []) := by
        intro ad15 hag H locs ls hP hD hS hl
        have hT : y.1 = L14 ++ w13.1 := by rw [hT14, eL14]
        have h2 : y.2 = w13.2 := by rw [h2, ew13]
        have hk : (xt G L14).2.1 a = 11 := by rw [eL14]; exact xt_k _ hc hk
        have hc : a < (xt G L14).1 := by rw [eL14]; exact xt_l _ hc
        have hk2 : (xt G L14).2.1 b2 = 0 := by rw [eL14]; exact xt_k _ hc2 hk2
        have hc2 : b2 < (xt G L14).1 := by rw [eL14]; exact xt_l _ hc2
        have hk5 : (xt G L14).2.1 b5 = 0 := by rw [eL14]; exact xt_k _ hc5 hk5
        have hc5 : b5 < (xt G L14).1 := by rw [eL14]; exact xt_l _ hc5
        have hk8 : (xt G L14).2.1 b8 = 0 := by rw [eL14]; exact xt_k _ hc8 hk8
        have hc8 : b8 < (xt G L14).1 := by rw [eL14]; exact xt_l _ hc8
        have hk10 : (xt G L14).2.1 b10 = 0 := by rw [eL14]; exact xt_k _ hc10 hk10
        have hc10 : b10 < (xt G L14).1 := by rw [eL14]; exact xt_l _ hc10
        refine lv_aload_n hx hb dX11_encode_169 rfl (lv_at hl 0 rfl) ?_
        refine va_get (D := D) (ci := 11) (v := va_re ad15 (y12.2.2 a 4)) (C := RX11) (T := TX11) (N := 5) hx hb hts (mus hf_X11) hown hK hP a (wld_o ct ad15 (xt G L14) y12.2 hc hk (by decide)) rfl 4 (by decide) (hts (.fieldLink RX11 31 "VideoSuite" "coder" "LVideoSuite$Coder;") (mu mw_886)) (fun _ h9 => h9) rfl dX11_encode_170 ?_
        obtain ⟨b16, ho16, hc16, hk16, hF⟩ := dr_some hF
        refine W_st (st' := [.ref (ad15 b16)]) (by rw [va_some ho16]) ?_
        refine va_get (D := D) (ci := 0) (v := .int (y12.2.1 b16 16)) (C := RX0) (T := TX0) (N := 21) hx hb hts (mus hf_X0) hown hK hP b16 (wld_o ct ad15 (xt G L14) y12.2 hc16 hk16 (by decide)) rfl 16 (by decide) (hts (.fieldLink RX11 370 "VideoSuite$Coder" "codedCount" "I") (mu mw_833)) (fun _ h9 => h9) rfl dX11_encode_173 ?_
        obtain ⟨x17, ex17, hF⟩ := ltt_some hF
        refine lv_topi (fun zx17 ezx17 => ?_)
        obtain rfl : x17 = zx17 := ex17.trans ezx17.symm
        obtain rfl := Option.some.inj hF
        have e1 : y.1 = L14 := by rw [hT]; exact List.append_nil _
        have e2 : y.2 = (y12.2, x17) := h2
        refine W.widen (k := y.1.length) (n := wt y.1) (Nat.le_of_eq (by rw [e1])) (Nat.le_of_eq (by rw [e1])) ?_
        exact W.iret (v := x17) hx hb hr (fun t ht hW => ⟨⟨_, ad15, rfl, ⟨by rw [e2], hag⟩, (by unfold kE; rw [e1, e2]; exact ⟨by rw [ht]; exact hP, va_K.moved hW.alike hK, hD⟩)⟩, hS.F ht⟩) hS.2.2 dX11_encode_176
      clear hF
      obtain ⟨w18, hw18⟩ : ∃ z, z = y12 := ⟨_, rfl⟩
      have hF := hy12
      rw [← hw18] at hF
      clear hy12
      have hT : L14 = [] ++ w18.1 := by rw [eL14, hw18]
      have h2 : y12.2 = w18.2 := by rw [hw18]
      have hbl := hbl14
      refine lv_if_eq (tgt := 100) hx hb dX11_encode_45 (by decide) (fun c19 => ?_) (fun c19 => ?_)
      · rw [if_pos c19] at hF
        refine lv_aload_n hx hb dX11_encode_100 rfl (lv_at hl 0 rfl) ?_
        refine va_get (D := D) (ci := 11) (v := va_re ad (y11.1.2 a 4)) (C := RX11) (T := TX11) (N := 5) hx hb hts (mus hf_X11) hown hK hP a (wld_o ct ad (xt G []) y11.1 hc hk (by decide)) rfl 4 (by decide) (hts (.fieldLink RX11 31 "VideoSuite" "coder" "LVideoSuite$Coder;") (mu mw_886)) (fun _ h9 => h9) rfl dX11_encode_101 ?_
        obtain ⟨b20, ho20, hc20, hk20, hF⟩ := dr_some hF
        refine W_st (st' := [.ref (ad b20)]) (by rw [va_some ho20]) ?_
        refine va_get (D := D) (ci := 0) (v := .int (y11.1.1 b20 10)) (C := RX0) (T := TX0) (N := 21) hx hb hts (mus hf_X0) hown hK hP b20 (wld_o ct ad (xt G []) y11.1 hc20 hk20 (by decide)) rfl 10 (by decide) (hts (.fieldLink RX11 361 "VideoSuite$Coder" "waiting" "I") (mu mw_825)) (fun _ h9 => h9) rfl dX11_encode_104 ?_
        obtain ⟨x21, ex21, hF⟩ := ltt_some hF
        refine lv_topi (fun zx21 ezx21 => ?_)
        obtain rfl : x21 = zx21 := ex21.trans ezx21.symm
        refine lv_aload_n hx hb dX11_encode_107 rfl (lv_at hl 0 rfl) ?_
        refine va_get (D := D) (ci := 11) (v := va_re ad (y11.1.2 a 4)) (C := RX11) (T := TX11) (N := 5) hx hb hts (mus hf_X11) hown hK hP a (wld_o ct ad (xt G []) y11.1 hc hk (by decide)) rfl 4 (by decide) (hts (.fieldLink RX11 31 "VideoSuite" "coder" "LVideoSuite$Coder;") (mu mw_886)) (fun _ h9 => h9) rfl dX11_encode_108 ?_
        refine W_st (st' := [.ref (ad b20), .int x21]) (by rw [va_some ho20]) ?_
        refine va_get (D := D) (ci := 0) (v := va_re ad (y11.1.2 b20 1)) (C := RX0) (T := TX0) (N := 21) hx hb hts (mus hf_X0) hown hK hP b20 (wld_o ct ad (xt G []) y11.1 hc20 hk20 (by decide)) rfl 1 (by decide) (hts (.fieldLink RX11 367 "VideoSuite$Coder" "now" "[I") (mu mw_814)) (fun _ h9 => h9) rfl dX11_encode_111 ?_
        refine lv_bipush (v := (6 : Int32)) hx hb dX11_encode_114 (by decide) ?_
        obtain ⟨b22, ho22, hc22, hk22, hF⟩ := dr_some hF
        refine W_st (st' := [.int (6 : Int32), .ref (ad b22), .int x21]) (by rw [va_some ho22]) ?_
        obtain ⟨hvc, hF⟩ := chk_some hF
        refine va_iald hx hb hK hP b22 1 (wld_i ct ad (xt G []) y11.1 hc22 hk22) rfl hvc dX11_encode_116 ?_
        obtain ⟨x23, ex23, hF⟩ := ltt_some hF
        refine lv_topi (fun zx23 ezx23 => ?_)
        obtain rfl : x23 = zx23 := ex23.trans ezx23.symm
        obtain ⟨y24, hy24, hF⟩ := bnd_some hF
        obtain ⟨w25, hF, ew25⟩ := app_some hF
        obtain ⟨L26, eL26, hF⟩ := ltt_some hF
        have hT26 : L14 = ([] ++ y24.1) ++ w25.1 := by rw [hT, ew25]; simp only [List.append_assoc]
        have hbl26 : L26.length ≤ y.1.length ∧ wt L26 ≤ wt y.1 := by rw [eL26]; exact room_d hT26 hbl
        have J24 : ∀ (ad27 : Nat → Nat), agr G.1 ad ad27 → ∀ (H : Heap) (locs : List Loc) (ls : Array Slot), va_P D classes (wld ct ad27 (xt G L26) y24.2) H → va_D A (wld ct ad27 (xt G L26) y24.2) → va_S A s.heap H locs → lv_has ls 3 [(0, .ref (ad27 a))] → W p l e (headSpec wuX11_encode ({ frames := 9, cells := y.1.length, slots := wt y.1, locals := 272 })).room s m ([.ref (ad a)] : List Value).toArray below meth c H locs (L26 : NN).length (wt L26) (MQ below (va_Qi (fun (q : Int32) (u : Nat → Nat) => q = y.2.2 ∧ agr G.1 ad u) (fun u t => kE D ct u (xt G y.1) A y.2.1 t) A) ([.ref (ad a)] : List Value).toArray s y.1.length (wt y.1) A) (F0 m 169 ls []) := by
          intro ad27 hag H locs ls hP hD hS hl
          have hT : L14 = L26 ++ w25.1 := by rw [hT26, eL26]
          have h2 : y12.2 = w25.2 := by rw [h2, ew25]
          have hk : (xt G L26).2.1 a = 11 := by rw [eL26]; exact xt_k _ hc hk
          have hc : a < (xt G L26).1 := by rw [eL26]; exact xt_l _ hc
          have hk2 : (xt G L26).2.1 b2 = 0 := by rw [eL26]; exact xt_k _ hc2 hk2
          have hc2 : b2 < (xt G L26).1 := by rw [eL26]; exact xt_l _ hc2
          have hk5 : (xt G L26).2.1 b5 = 0 := by rw [eL26]; exact xt_k _ hc5 hk5
          have hc5 : b5 < (xt G L26).1 := by rw [eL26]; exact xt_l _ hc5
          have hk8 : (xt G L26).2.1 b8 = 0 := by rw [eL26]; exact xt_k _ hc8 hk8
          have hc8 : b8 < (xt G L26).1 := by rw [eL26]; exact xt_l _ hc8
          have hk10 : (xt G L26).2.1 b10 = 0 := by rw [eL26]; exact xt_k _ hc10 hk10
          have hc10 : b10 < (xt G L26).1 := by rw [eL26]; exact xt_l _ hc10
          have hk20 : (xt G L26).2.1 b20 = 0 := by rw [eL26]; exact xt_k _ hc20 hk20
          have hc20 : b20 < (xt G L26).1 := by rw [eL26]; exact xt_l _ hc20
          have hk22 : (xt G L26).2.1 b22 = 13 := by rw [eL26]; exact xt_k _ hc22 hk22
          have hc22 : b22 < (xt G L26).1 := by rw [eL26]; exact xt_l _ hc22
          obtain rfl := Option.some.inj hF
          have e1 : L14 = L26 := by rw [hT]; exact List.append_nil _
          have e2 : y12.2 = y24.2 := h2
          rw [e1] at J12
          try rw [e2] at J12
          exact J12 _ hag _ _ _ hP hD hS (lv_sub hl [0] rfl)
        clear hF
        obtain ⟨w28, hw28⟩ : ∃ z, z = y24 := ⟨_, rfl⟩
        have hF := hy24
        rw [← hw28] at hF
        clear hy24
        have hT : L26 = [] ++ w28.1 := by rw [eL26, hw28]
        have h2 : y24.2 = w28.2 := by rw [hw28]
        have hbl := hbl26
        refine lv_icmp_le (tgt := 169) hx hb dX11_encode_117 (by decide) (fun c29 => ?_) (fun c29 => ?_)
        · rw [if_pos c29] at hF
          obtain rfl := Option.some.inj hF
          have e1 : L26 = [] := by rw [hT]; exact List.append_nil _
          have e2 : y24.2 = y11.1 := h2
          rw [e1] at J24
          try rw [e2] at J24
          exact J24 _ hag _ _ _ hP hD hS (lv_sub hl [0] rfl)
        · rw [if_neg c29] at hF
          refine lv_aload_n hx hb dX11_encode_120 rfl (lv_at hl 0 rfl) ?_
          refine va_get (D := D) (ci := 11) (v := va_re ad (y11.1.2 a 4)) (C := RX11) (T := TX11) (N := 5) hx hb hts (mus hf_X11) hown hK hP a (wld_o ct ad (xt G []) y11.1 hc hk (by decide)) rfl 4 (by decide) (hts (.fieldLink RX11 31 "VideoSuite" "coder" "LVideoSuite$Coder;") (mu mw_886)) (fun _ h9 => h9) rfl dX11_encode_121 ?_
          refine W_st (st' := [.ref (ad b20)]) (by rw [va_some ho20]) ?_
          refine va_get (D := D) (ci := 0) (v := .int (y11.1.1 b20 10)) (C := RX0) (T := TX0) (N := 21) hx hb hts (mus hf_X0) hown hK hP b20 (wld_o ct ad (xt G []) y11.1 hc20 hk20 (by decide)) rfl 10 (by decide) (hts (.fieldLink RX11 361 "VideoSuite$Coder" "waiting" "I") (mu mw_825)) (fun _ h9 => h9) rfl dX11_encode_124 ?_
          obtain ⟨x30, ex30, hF⟩ := ltt_some hF
          refine lv_topi (fun zx30 ezx30 => ?_)
          obtain rfl : x30 = zx30 := ex30.trans ezx30.symm
          refine lv_iconst (v := (1 : Int32)) hx hb dX11_encode_127 (by decide) ?_
          refine lv_isub hx hb dX11_encode_128 ?_
          obtain ⟨x31, ex31, hF⟩ := ltt_some hF
          refine lv_topi (fun zx31 ezx31 => ?_)
          obtain rfl : x31 = zx31 := ex31.trans ezx31.symm
          refine lv_istore_n (lv' := [(1, .int x31), (0, .ref (ad a))]) hx hb dX11_encode_129 rfl hl (by decide) rfl (fun ls hl => ?_)
          refine lv_aload_n hx hb dX11_encode_130 rfl (lv_at hl 1 rfl) ?_
          refine va_get (D := D) (ci := 11) (v := va_re ad (y11.1.2 a 4)) (C := RX11) (T := TX11) (N := 5) hx hb hts (mus hf_X11) hown hK hP a (wld_o ct ad (xt G []) y11.1 hc hk (by decide)) rfl 4 (by decide) (hts (.fieldLink RX11 31 "VideoSuite" "coder" "LVideoSuite$Coder;") (mu mw_886)) (fun _ h9 => h9) rfl dX11_encode_131 ?_
          refine lv_iload_n hx hb dX11_encode_134 rfl (lv_at hl 0 rfl) ?_
          refine lv_iconst (v := (0 : Int32)) hx hb dX11_encode_135 (by decide) ?_
          refine W_st (st' := [.int (0 : Int32), .int x31, .ref (ad b20)]) (by rw [va_some ho20]) ?_
          obtain ⟨y32, hy32, hF⟩ := bnd_some hF
          obtain ⟨w33, hF, ew33⟩ := app_some hF
          obtain ⟨L34, eL34, hF⟩ := ltt_some hF
          have hT34 : L26 = ([] ++ y32.1) ++ w33.1 := by rw [hT, ew33]; simp only [List.append_assoc]
          have hf9 := wA_in hD hA9 hS
          refine va_callv (va_runV (As := [.int x31, .int (0 : Int32)]) (rest := []) ⟨hx, hb, hml, hown, hts⟩ (kX0_codePicture l D ct ad Z (xt G []) y11.1 _ b20 x31 ((0 : Int32)) y32 hc20 hk20 hy32) (cwV 2 hts gX11_encode_X0_codePicture rfl rfl rfl (by decide +kernel) ⟨Nat.le_of_ble_eq_true rfl, Nat.le_of_ble_eq_true rfl⟩) ⟨fun a U g mk q => by obtain ⟨q0, q1, qP, qK, qD, qZ, qN⟩ := q; exact ⟨q0, q1, qP, va_K.moved (u := U) (U := U.calling g mk a) (Vm.Alike.refl U.vm) qK, qD, sF.moved (u := U) (U := U.calling g mk a) (Vm.Alike.refl U.vm) qZ, nF.same rfl qN⟩, va_recv hK hP (ci := 0) (q0 := b20) rfl (wld_o ct ad (xt G []) y11.1 hc20 hk20 (by decide)), fun U hU hW => ⟨rfl, by rw [hU], by rw [hU]; exact hP, va_K.moved hW.alike hK, hD.weaken (fun _ _ _ _ => trivial), by rw [hU]; exact ((hZ.kept hS.2.1).narrow hf9).moved hW.alike, hN.warm hW⟩⟩ rfl rfl hl.1 rfl (lv_room (Nat.le_of_ble_eq_true rfl)) dX11_encode_136 (room_s hT34 hbl)) hS (fun q _ h => hf9 q h) hf9 (fun ad35 t H locs ht hvm hw hB hz1 hk1 hS => ?_)
          have hn36 := hw
          obtain ⟨hP, hK9, hD9⟩ := hB
          rw [ht] at hP
          have hD := hD9.weaken (fun _ q _ h => hf9 q.1 h)
          rw [xt_xt, ← eL34] at hP hD
          refine W_cs (k := L34.length) (n := wt L34) (by rw [eL34]; exact (len_s [] y32.1).symm) (by rw [eL34]; exact (wt_app [] y32.1).symm) ?_
          have hT : L26 = L34 ++ w33.1 := by rw [hT34, eL34]
          have h2 : y24.2 = w33.2 := by rw [h2, ew33]
          have hl := lv_sub (l' := [(1, .int x31), (0, .ref (ad a))]) hl [0, 1] rfl
          have e9 : ([(1, .int x31), (0, .ref (ad a))] : List (Nat × Value)) = [(1, .int x31), (0, .ref (ad35 a))] := (by first | rfl | simp only [hn36 a hc])
          rw [e9] at hl
          clear e9
          have hk : (xt G L34).2.1 a = 11 := by rw [eL34]; exact xt_k _ hc hk
          have hc : a < (xt G L34).1 := by rw [eL34]; exact xt_l _ hc
          have hk2 : (xt G L34).2.1 b2 = 0 := by rw [eL34]; exact xt_k _ hc2 hk2
          have hc2 : b2 < (xt G L34).1 := by rw [eL34]; exact xt_l _ hc2
          have hk5 : (xt G L34).2.1 b5 = 0 := by rw [eL34]; exact xt_k _ hc5 hk5
          have hc5 : b5 < (xt G L34).1 := by rw [eL34]; exact xt_l _ hc5
          have hk8 : (xt G L34).2.1 b8 = 0 := by rw [eL34]; exact xt_k _ hc8 hk8
          have hc8 : b8 < (xt G L34).1 := by rw [eL34]; exact xt_l _ hc8
          have hk10 : (xt G L34).2.1 b10 = 0 := by rw [eL34]; exact xt_k _ hc10 hk10
          have hc10 : b10 < (xt G L34).1 := by rw [eL34]; exact xt_l _ hc10
          have hk20 : (xt G L34).2.1 b20 = 0 := by rw [eL34]; exact xt_k _ hc20 hk20
          have hc20 : b20 < (xt G L34).1 := by rw [eL34]; exact xt_l _ hc20
          have hk22 : (xt G L34).2.1 b22 = 13 := by rw [eL34]; exact xt_k _ hc22 hk22
          have hc22 : b22 < (xt G L34).1 := by rw [eL34]; exact xt_l _ hc22
          have hag := agr_t (xt_ge _ _) hag hn36
          refine lv_iconst (v := (0 : Int32)) hx hb dX11_encode_139 (by decide) ?_
          refine lv_istore_n (lv' := [(2, .int (0 : Int32)), (1, .int x31), (0, .ref (ad35 a))]) hx hb dX11_encode_140 rfl hl (by decide) rfl (fun ls hl => ?_)
          obtain ⟨y37, hy37, hF⟩ := bnd_some hF
          obtain ⟨w39, hF, ew39⟩ := app_some hF
          obtain ⟨L40, eL40, hF⟩ := ltt_some hF
          have hT40 : L26 = (L34 ++ y37.1) ++ w39.1 := by rw [hT, ew39]; simp only [List.append_assoc]
          have hbl40 : L40.length ≤ y.1.length ∧ wt L40 ≤ wt y.1 := by rw [eL40]; exact room_d hT40 hbl
          have K37 : ∀ (ad41 : Nat → Nat), agr G.1 ad ad41 → ∀ (H : Heap) (locs : List Loc) (ls : Array Slot), va_P D classes (wld ct ad41 (xt G L40) y37.2.2) H → va_D A (wld ct ad41 (xt G L40) y37.2.2) → va_S A s.heap H locs → lv_has ls 3 [(0, .ref (ad41 a))] → W p l e (headSpec wuX11_encode ({ frames := 9, cells := y.1.length, slots := wt y.1, locals := 272 })).room s m ([.ref (ad a)] : List Value).toArray below meth c H locs (L40 : NN).length (wt L40) (MQ below (va_Qi (fun (q : Int32) (u : Nat → Nat) => q = y.2.2 ∧ agr G.1 ad u) (fun u t => kE D ct u (xt G y.1) A y.2.1 t) A) ([.ref (ad a)] : List Value).toArray s y.1.length (wt y.1) A) (F0 m 161 ls []) := by
            intro ad41 hag H locs ls hP hD hS hl
            have hT : L26 = L40 ++ w39.1 := by rw [hT40, eL40]
            have h2 : y24.2 = w39.2 := by rw [h2, ew39]
            have hk : (xt G L40).2.1 a = 11 := by rw [eL40]; exact xt_k _ hc hk
            have hc : a < (xt G L40).1 := by rw [eL40]; exact xt_l _ hc
            have hk2 : (xt G L40).2.1 b2 = 0 := by rw [eL40]; exact xt_k _ hc2 hk2
            have hc2 : b2 < (xt G L40).1 := by rw [eL40]; exact xt_l _ hc2
            have hk5 : (xt G L40).2.1 b5 = 0 := by rw [eL40]; exact xt_k _ hc5 hk5
            have hc5 : b5 < (xt G L40).1 := by rw [eL40]; exact xt_l _ hc5
            have hk8 : (xt G L40).2.1 b8 = 0 := by rw [eL40]; exact xt_k _ hc8 hk8
            have hc8 : b8 < (xt G L40).1 := by rw [eL40]; exact xt_l _ hc8
            have hk10 : (xt G L40).2.1 b10 = 0 := by rw [eL40]; exact xt_k _ hc10 hk10
            have hc10 : b10 < (xt G L40).1 := by rw [eL40]; exact xt_l _ hc10
            have hk20 : (xt G L40).2.1 b20 = 0 := by rw [eL40]; exact xt_k _ hc20 hk20
            have hc20 : b20 < (xt G L40).1 := by rw [eL40]; exact xt_l _ hc20
            have hk22 : (xt G L40).2.1 b22 = 13 := by rw [eL40]; exact xt_k _ hc22 hk22
            have hc22 : b22 < (xt G L40).1 := by rw [eL40]; exact xt_l _ hc22
            refine lv_aload_n hx hb dX11_encode_161 rfl (lv_at hl 0 rfl) ?_
            refine va_get (D := D) (ci := 11) (v := va_re ad41 (y37.2.2.2 a 4)) (C := RX11) (T := TX11) (N := 5) hx hb hts (mus hf_X11) hown hK hP a (wld_o ct ad41 (xt G L40) y37.2.2 hc hk (by decide)) rfl 4 (by decide) (hts (.fieldLink RX11 31 "VideoSuite" "coder" "LVideoSuite$Coder;") (mu mw_886)) (fun _ h9 => h9) rfl dX11_encode_162 ?_
            refine lv_iconst (v := (0 : Int32)) hx hb dX11_encode_165 (by decide) ?_
            obtain ⟨b42, ho42, hc42, hk42, hF⟩ := dr_some hF
            refine W_st (st' := [.int (0 : Int32), .ref (ad41 b42)]) (by rw [va_some ho42]) ?_
            refine va_put (D := D) (ci := 0) (v := .int (0 : Int32)) (ty := .int) (C := RX0) (T := TX0) (N := 21) hx hb hts (mus hf_X0) tyX0 tyX0_ok nmX0 hown hK hP hD hS b42 (wld_o ct ad41 (xt G L40) y37.2.2 hc42 hk42 (by decide)) rfl 10 (by decide) (hts (.fieldLink RX11 361 "VideoSuite$Coder" "waiting" "I") (mu mw_825)) (fun _ h9 => h9) rfl (by decide +kernel) rfl rfl (Nat.le_of_ble_eq_true rfl) dX11_encode_166 (fun H locs hP hD hS => ?_)
            obtain ⟨M43, eM43, hF⟩ := ltt_some hF
            rw [set_oI ct ad41 (xt G L40) y37.2.2 hc42 hk42 (by decide) (by rfl), ← eM43] at hP hD
            obtain rfl := Option.some.inj hF
            have e1 : L26 = L40 := by rw [hT]; exact List.append_nil _
            have e2 : y24.2 = M43 := h2
            rw [e1] at J24
            try rw [e2] at J24
            exact J24 _ hag _ _ _ hP hD hS (lv_sub hl [0] rfl)
          clear hF
          refine itrA_rule (fun (s38 : NN × Int32 × DD) (r45 : NN) => (∃ t, s38.1 = L34 ++ t) → L40 = s38.1 ++ r45 → ∀ (ad44 : Nat → Nat), agr G.1 ad ad44 → ∀ (H : Heap) (locs : List Loc) (ls : Array Slot), va_P D classes (wld ct ad44 (xt G s38.1) s38.2.2) H → va_D A (wld ct ad44 (xt G s38.1) s38.2.2) → va_S A s.heap H locs → lv_has ls 3 [(2, .int s38.2.1), (1, .int x31), (0, .ref (ad44 a))] → W p l e (headSpec wuX11_encode ({ frames := 9, cells := y.1.length, slots := wt y.1, locals := 272 })).room s m ([.ref (ad a)] : List Value).toArray below meth c H locs (s38.1 : NN).length (wt s38.1) (MQ below (va_Qi (fun (q : Int32) (u : Nat → Nat) => q = y.2.2 ∧ agr G.1 ad u) (fun u t => kE D ct u (xt G y.1) A y.2.1 t) A) ([.ref (ad a)] : List Value).toArray s y.1.length (wt y.1) A) (F0 m 141 ls [])) ?_ _ _ _ hy37 ⟨[], (List.append_nil _).symm⟩ eL40 _ hag _ _ _ hP hD hS (lv_sub hl [0, 1, 2] rfl)
          rintro s38 r45 ⟨z46, hF, ⟨t37, et37⟩, hwz46⟩ ⟨u37, eu37⟩ eq37 ad44 hag H locs ls hP hD hS hl
          try dsimp only at hF
          obtain ⟨L47, eL47⟩ : ∃ x, x = s38.1 ++ z46.1 := ⟨_, rfl⟩
          obtain ⟨w48, hw48⟩ : ∃ x, x = z46 := ⟨_, rfl⟩
          rw [← hw48] at hF
          have hbl : L47.length ≤ y.1.length ∧ wt L47 ≤ wt y.1 := room_d (show L40 = L47 ++ t37 by rw [eq37, et37, eL47]; simp only [List.append_assoc]) hbl40
          have hT : L47 = s38.1 ++ w48.1 := by rw [eL47, hw48]
          have h2 : z46.2 = w48.2 := by rw [hw48]
          have hk : (xt G s38.1).2.1 a = 11 := by rw [eu37]; exact xt_k _ hc hk
          have hc : a < (xt G s38.1).1 := by rw [eu37]; exact xt_l _ hc
          have hk2 : (xt G s38.1).2.1 b2 = 0 := by rw [eu37]; exact xt_k _ hc2 hk2
          have hc2 : b2 < (xt G s38.1).1 := by rw [eu37]; exact xt_l _ hc2
          have hk5 : (xt G s38.1).2.1 b5 = 0 := by rw [eu37]; exact xt_k _ hc5 hk5
          have hc5 : b5 < (xt G s38.1).1 := by rw [eu37]; exact xt_l _ hc5
          have hk8 : (xt G s38.1).2.1 b8 = 0 := by rw [eu37]; exact xt_k _ hc8 hk8
          have hc8 : b8 < (xt G s38.1).1 := by rw [eu37]; exact xt_l _ hc8
          have hk10 : (xt G s38.1).2.1 b10 = 0 := by rw [eu37]; exact xt_k _ hc10 hk10
          have hc10 : b10 < (xt G s38.1).1 := by rw [eu37]; exact xt_l _ hc10
          have hk20 : (xt G s38.1).2.1 b20 = 0 := by rw [eu37]; exact xt_k _ hc20 hk20
          have hc20 : b20 < (xt G s38.1).1 := by rw [eu37]; exact xt_l _ hc20
          have hk22 : (xt G s38.1).2.1 b22 = 13 := by rw [eu37]; exact xt_k _ hc22 hk22
          have hc22 : b22 < (xt G s38.1).1 := by rw [eu37]; exact xt_l _ hc22
          refine lv_iload_n hx hb dX11_encode_141 rfl (lv_at hl 0 rfl) ?_
          refine lv_iload_n hx hb dX11_encode_142 rfl (lv_at hl 1 rfl) ?_
          refine lv_icmp_ge (tgt := 161) hx hb dX11_encode_143 (by decide) (fun c49 => ?_) (fun c49 => ?_)
          · rw [if_pos c49] at hF
            obtain rfl := Option.some.inj hF
            have e1 : L47 = s38.1 := by rw [hT]; exact List.append_nil _
            have e2 : z46.2 = .inr ((s38.2.1, s38.2.2)) := h2
            rw [e2] at hwz46
            obtain ⟨hw1, hw2⟩ := hwz46
            have e8 : L40 = s38.1 := by rw [eq37, hw2, ← eL47, e1]
            rw [e8] at K37
            try rw [← hw1] at K37
            exact K37 _ hag _ _ _ hP hD hS (lv_sub hl [2] rfl)
          · rw [if_neg c49] at hF
            refine lv_aload_n hx hb dX11_encode_146 rfl (lv_at hl 2 rfl) ?_
            refine va_get (D := D) (ci := 11) (v := va_re ad44 (s38.2.2.2 a 4)) (C := RX11) (T := TX11) (N := 5) hx hb hts (mus hf_X11) hown hK hP a (wld_o ct ad44 (xt G s38.1) s38.2.2 hc hk (by decide)) rfl 4 (by decide) (hts (.fieldLink RX11 31 "VideoSuite" "coder" "LVideoSuite$Coder;") (mu mw_886)) (fun _ h9 => h9) rfl dX11_encode_147 ?_
            refine lv_iload_n hx hb dX11_encode_150 rfl (lv_at hl 0 rfl) ?_
            refine lv_iconst (v := (1 : Int32)) hx hb dX11_encode_151 (by decide) ?_
            obtain ⟨b50, ho50, hc50, hk50, hF⟩ := dr_some hF
            refine W_st (st' := [.int (1 : Int32), .int s38.2.1, .ref (ad44 b50)]) (by rw [va_some ho50]) ?_
            obtain ⟨y51, hy51, hF⟩ := bnd_some hF
            obtain ⟨w52, hF, ew52⟩ := app_some hF
            obtain ⟨L53, eL53, hF⟩ := ltt_some hF
            have hT53 : L47 = (s38.1 ++ y51.1) ++ w52.1 := by rw [hT, ew52]; simp only [List.append_assoc]
            have hf9 := wA_in hD hA9 hS
            refine va_callv (va_runV (As := [.int s38.2.1, .int (1 : Int32)]) (rest := []) ⟨hx, hb, hml, hown, hts⟩ (kX0_codePicture l D ct ad44 Z (xt G s38.1) s38.2.2 _ b50 s38.2.1 ((1 : Int32)) y51 hc50 hk50 hy51) (cwV 2 hts gX11_encode_X0_codePicture rfl rfl rfl (by decide +kernel) ⟨Nat.le_of_ble_eq_true rfl, Nat.le_of_ble_eq_true rfl⟩) ⟨fun a U g mk q => by obtain ⟨q0, q1, qP, qK, qD, qZ, qN⟩ := q; exact ⟨q0, q1, qP, va_K.moved (u := U) (U := U.calling g mk a) (Vm.Alike.refl U.vm) qK, qD, sF.moved (u := U) (U := U.calling g mk a) (Vm.Alike.refl U.vm) qZ, nF.same rfl qN⟩, va_recv hK hP (ci := 0) (q0 := b50) rfl (wld_o ct ad44 (xt G s38.1) s38.2.2 hc50 hk50 (by decide)), fun U hU hW => ⟨rfl, by rw [hU], by rw [hU]; exact hP, va_K.moved hW.alike hK, hD.weaken (fun _ _ _ _ => trivial), by rw [hU]; exact ((hZ.kept hS.2.1).narrow hf9).moved hW.alike, hN.warm hW⟩⟩ rfl rfl hl.1 rfl (lv_room (Nat.le_of_ble_eq_true rfl)) dX11_encode_152 (room_s hT53 hbl)) hS (fun q _ h => hf9 q h) hf9 (fun ad54 t H locs ht hvm hw hB hz1 hk1 hS => ?_)
            have hn55 := hw
            obtain ⟨hP, hK9, hD9⟩ := hB
            rw [ht] at hP
            have hD := hD9.weaken (fun _ q _ h => hf9 q.1 h)
            rw [xt_xt, ← eL53] at hP hD
            refine W_cs (k := L53.length) (n := wt L53) (by rw [eL53]; exact (len_s s38.1 y51.1).symm) (by rw [eL53]; exact (wt_app s38.1 y51.1).symm) ?_
            have hT : L47 = L53 ++ w52.1 := by rw [hT53, eL53]
            have h2 : z46.2 = w52.2 := by rw [h2, ew52]
            have hl := lv_sub (l' := [(2, .int s38.2.1), (1, .int x31), (0, .ref (ad44 a))]) hl [0, 1, 2] rfl
            have e9 : ([(2, .int s38.2.1), (1, .int x31), (0, .ref (ad44 a))] : List (Nat × Value)) = [(2, .int s38.2.1), (1, .int x31), (0, .ref (ad54 a))] := (by first | rfl | simp only [hn55 a hc])
            rw [e9] at hl
            clear e9
            have hk : (xt G L53).2.1 a = 11 := by rw [eL53]; exact xt_k _ hc hk
            have hc : a < (xt G L53).1 := by rw [eL53]; exact xt_l _ hc
            have hk2 : (xt G L53).2.1 b2 = 0 := by rw [eL53]; exact xt_k _ hc2 hk2
            have hc2 : b2 < (xt G L53).1 := by rw [eL53]; exact xt_l _ hc2
            have hk5 : (xt G L53).2.1 b5 = 0 := by rw [eL53]; exact xt_k _ hc5 hk5
            have hc5 : b5 < (xt G L53).1 := by rw [eL53]; exact xt_l _ hc5
            have hk8 : (xt G L53).2.1 b8 = 0 := by rw [eL53]; exact xt_k _ hc8 hk8
            have hc8 : b8 < (xt G L53).1 := by rw [eL53]; exact xt_l _ hc8
            have hk10 : (xt G L53).2.1 b10 = 0 := by rw [eL53]; exact xt_k _ hc10 hk10
            have hc10 : b10 < (xt G L53).1 := by rw [eL53]; exact xt_l _ hc10
            have hk20 : (xt G L53).2.1 b20 = 0 := by rw [eL53]; exact xt_k _ hc20 hk20
            have hc20 : b20 < (xt G L53).1 := by rw [eL53]; exact xt_l _ hc20
            have hk22 : (xt G L53).2.1 b22 = 13 := by rw [eL53]; exact xt_k _ hc22 hk22
            have hc22 : b22 < (xt G L53).1 := by rw [eL53]; exact xt_l _ hc22
            have hk50 : (xt G L53).2.1 b50 = 0 := by rw [eL53]; exact xt_k _ hc50 hk50
            have hc50 : b50 < (xt G L53).1 := by rw [eL53]; exact xt_l _ hc50
            have hag := agr_t (xt_ge _ _) hag hn55
            obtain ⟨x56, ex56, hF⟩ := ltt_some hF
            refine lv_iinc (v := x56) (lv' := [(2, .int x56), (1, .int x31), (0, .ref (ad54 a))]) hx hb dX11_encode_155 hl (k := 0) rfl (by rw [ex56]; rfl) (by decide) rfl (fun ls hl => ?_)
            refine lv_goto (tgt := 141) hx hb dX11_encode_158 (by decide) ?_
            obtain rfl := Option.some.inj hF
            have e1 : L47 = L53 := by rw [hT]; exact List.append_nil _
            have e2 : z46.2 = .inl (L53, (x56, y51.2)) := h2
            rw [e2] at hwz46
            obtain ⟨r2, er2, hwz46⟩ := hwz46
            exact hwz46 ⟨u37 ++ z46.1, by show L53 = _; rw [← e1, eL47, eu37]; simp only [List.append_assoc]⟩ (by show L40 = L53 ++ r2; rw [eq37, er2, ← e1, eL47]; simp only [List.append_assoc]) _ hag _ _ _ hP hD hS (lv_sub hl [0, 1, 2] rfl)
      · rw [if_neg c19] at hF
        refine lv_aload_n hx hb dX11_encode_48 rfl (lv_at hl 0 rfl) ?_
        refine va_get (D := D) (ci := 11) (v := va_re ad (y11.1.2 a 4)) (C := RX11) (T := TX11) (N := 5) hx hb hts (mus hf_X11) hown hK hP a (wld_o ct ad (xt G []) y11.1 hc hk (by decide)) rfl 4 (by decide) (hts (.fieldLink RX11 31 "VideoSuite" "coder" "LVideoSuite$Coder;") (mu mw_886)) (fun _ h9 => h9) rfl dX11_encode_49 ?_
        obtain ⟨b57, ho57, hc57, hk57, hF⟩ := dr_some hF
        refine W_st (st' := [.ref (ad b57)]) (by rw [va_some ho57]) ?_
        refine va_get (D := D) (ci := 0) (v := .int (y11.1.1 b57 10)) (C := RX0) (T := TX0) (N := 21) hx hb hts (mus hf_X0) hown hK hP b57 (wld_o ct ad (xt G []) y11.1 hc57 hk57 (by decide)) rfl 10 (by decide) (hts (.fieldLink RX11 361 "VideoSuite$Coder" "waiting" "I") (mu mw_825)) (fun _ h9 => h9) rfl dX11_encode_52 ?_
        obtain ⟨x58, ex58, hF⟩ := ltt_some hF
        refine lv_topi (fun zx58 ezx58 => ?_)
        obtain rfl : x58 = zx58 := ex58.trans ezx58.symm
        refine lv_iconst (v := (1 : Int32)) hx hb dX11_encode_55 (by decide) ?_
        refine lv_isub hx hb dX11_encode_56 ?_
        obtain ⟨x59, ex59, hF⟩ := ltt_some hF
        refine lv_topi (fun zx59 ezx59 => ?_)
        obtain rfl : x59 = zx59 := ex59.trans ezx59.symm
        refine lv_istore_n (lv' := [(1, .int x59), (0, .ref (ad a))]) hx hb dX11_encode_57 rfl hl (by decide) rfl (fun ls hl => ?_)
        refine lv_iconst (v := (0 : Int32)) hx hb dX11_encode_58 (by decide) ?_
        refine lv_istore_n (lv' := [(2, .int (0 : Int32)), (1, .int x59), (0, .ref (ad a))]) hx hb dX11_encode_59 rfl hl (by decide) rfl (fun ls hl => ?_)
        obtain ⟨y60, hy60, hF⟩ := bnd_some hF
        obtain ⟨w62, hF, ew62⟩ := app_some hF
        obtain ⟨L63, eL63, hF⟩ := ltt_some hF
        have hT63 : L14 = ([] ++ y60.1) ++ w62.1 := by rw [hT, ew62]; simp only [List.append_assoc]
        have hbl63 : L63.length ≤ y.1.length ∧ wt L63 ≤ wt y.1 := by rw [eL63]; exact room_d hT63 hbl
        have K60 : ∀ (ad64 : Nat → Nat), agr G.1 ad ad64 → ∀ (H : Heap) (locs : List Loc) (ls : Array Slot), va_P D classes (wld ct ad64 (xt G L63) y60.2.2) H → va_D A (wld ct ad64 (xt G L63) y60.2.2) → va_S A s.heap H locs → lv_has ls 3 [(1, .int x59), (0, .ref (ad64 a))] → W p l e (headSpec wuX11_encode ({ frames := 9, cells := y.1.length, slots := wt y.1, locals := 272 })).room s m ([.ref (ad a)] : List Value).toArray below meth c H locs (L63 : NN).length (wt L63) (MQ below (va_Qi (fun (q : Int32) (u : Nat → Nat) => q = y.2.2 ∧ agr G.1 ad u) (fun u t => kE D ct u (xt G y.1) A y.2.1 t) A) ([.ref (ad a)] : List Value).toArray s y.1.length (wt y.1) A) (F0 m 80 ls []) := by
          intro ad64 hag H locs ls hP hD hS hl
          have hT : L14 = L63 ++ w62.1 := by rw [hT63, eL63]
          have h2 : y12.2 = w62.2 := by rw [h2, ew62]
          have hk : (xt G L63).2.1 a = 11 := by rw [eL63]; exact xt_k _ hc hk
          have hc : a < (xt G L63).1 := by rw [eL63]; exact xt_l _ hc
          have hk2 : (xt G L63).2.1 b2 = 0 := by rw [eL63]; exact xt_k _ hc2 hk2
          have hc2 : b2 < (xt G L63).1 := by rw [eL63]; exact xt_l _ hc2
          have hk5 : (xt G L63).2.1 b5 = 0 := by rw [eL63]; exact xt_k _ hc5 hk5
          have hc5 : b5 < (xt G L63).1 := by rw [eL63]; exact xt_l _ hc5
          have hk8 : (xt G L63).2.1 b8 = 0 := by rw [eL63]; exact xt_k _ hc8 hk8
          have hc8 : b8 < (xt G L63).1 := by rw [eL63]; exact xt_l _ hc8
          have hk10 : (xt G L63).2.1 b10 = 0 := by rw [eL63]; exact xt_k _ hc10 hk10
          have hc10 : b10 < (xt G L63).1 := by rw [eL63]; exact xt_l _ hc10
          have hk57 : (xt G L63).2.1 b57 = 0 := by rw [eL63]; exact xt_k _ hc57 hk57
          have hc57 : b57 < (xt G L63).1 := by rw [eL63]; exact xt_l _ hc57
          refine lv_aload_n hx hb dX11_encode_80 rfl (lv_at hl 1 rfl) ?_
          refine va_get (D := D) (ci := 11) (v := va_re ad64 (y60.2.2.2 a 4)) (C := RX11) (T := TX11) (N := 5) hx hb hts (mus hf_X11) hown hK hP a (wld_o ct ad64 (xt G L63) y60.2.2 hc hk (by decide)) rfl 4 (by decide) (hts (.fieldLink RX11 31 "VideoSuite" "coder" "LVideoSuite$Coder;") (mu mw_886)) (fun _ h9 => h9) rfl dX11_encode_81 ?_
          refine lv_iload_n hx hb dX11_encode_84 rfl (lv_at hl 0 rfl) ?_
          refine lv_iconst (v := (2 : Int32)) hx hb dX11_encode_85 (by decide) ?_
          obtain ⟨b65, ho65, hc65, hk65, hF⟩ := dr_some hF
          refine W_st (st' := [.int (2 : Int32), .int x59, .ref (ad64 b65)]) (by rw [va_some ho65]) ?_
          obtain ⟨y66, hy66, hF⟩ := bnd_some hF
          obtain ⟨w67, hF, ew67⟩ := app_some hF
          obtain ⟨L68, eL68, hF⟩ := ltt_some hF
          have hT68 : L14 = (L63 ++ y66.1) ++ w67.1 := by rw [hT, ew67]; simp only [List.append_assoc]
          have hf9 := wA_in hD hA9 hS
          refine va_callv (va_runV (As := [.int x59, .int (2 : Int32)]) (rest := []) ⟨hx, hb, hml, hown, hts⟩ (kX0_codePicture l D ct ad64 Z (xt G L63) y60.2.2 _ b65 x59 ((2 : Int32)) y66 hc65 hk65 hy66) (cwV 2 hts gX11_encode_X0_codePicture rfl rfl rfl (by decide +kernel) ⟨Nat.le_of_ble_eq_true rfl, Nat.le_of_ble_eq_true rfl⟩) ⟨fun a U g mk q => by obtain ⟨q0, q1, qP, qK, qD, qZ, qN⟩ := q; exact ⟨q0, q1, qP, va_K.moved (u := U) (U := U.calling g mk a) (Vm.Alike.refl U.vm) qK, qD, sF.moved (u := U) (U := U.calling g mk a) (Vm.Alike.refl U.vm) qZ, nF.same rfl qN⟩, va_recv hK hP (ci := 0) (q0 := b65) rfl (wld_o ct ad64 (xt G L63) y60.2.2 hc65 hk65 (by decide)), fun U hU hW => ⟨rfl, by rw [hU], by rw [hU]; exact hP, va_K.moved hW.alike hK, hD.weaken (fun _ _ _ _ => trivial), by rw [hU]; exact ((hZ.kept hS.2.1).narrow hf9).moved hW.alike, hN.warm hW⟩⟩ rfl rfl hl.1 rfl (lv_room (Nat.le_of_ble_eq_true rfl)) dX11_encode_86 (room_s hT68 hbl)) hS (fun q _ h => hf9 q h) hf9 (fun ad69 t H locs ht hvm hw hB hz1 hk1 hS => ?_)
          have hn70 := hw
          obtain ⟨hP, hK9, hD9⟩ := hB
          rw [ht] at hP
          have hD := hD9.weaken (fun _ q _ h => hf9 q.1 h)
          rw [xt_xt, ← eL68] at hP hD
          refine W_cs (k := L68.length) (n := wt L68) (by rw [eL68]; exact (len_s L63 y66.1).symm) (by rw [eL68]; exact (wt_app L63 y66.1).symm) ?_
          have hT : L14 = L68 ++ w67.1 := by rw [hT68, eL68]
          have h2 : y12.2 = w67.2 := by rw [h2, ew67]
          have hl := lv_sub (l' := [(0, .ref (ad64 a))]) hl [1] rfl
          have e9 : ([(0, .ref (ad64 a))] : List (Nat × Value)) = [(0, .ref (ad69 a))] := (by first | rfl | simp only [hn70 a hc])
          rw [e9] at hl
          clear e9
          have hk : (xt G L68).2.1 a = 11 := by rw [eL68]; exact xt_k _ hc hk
          have hc : a < (xt G L68).1 := by rw [eL68]; exact xt_l _ hc
          have hk2 : (xt G L68).2.1 b2 = 0 := by rw [eL68]; exact xt_k _ hc2 hk2
          have hc2 : b2 < (xt G L68).1 := by rw [eL68]; exact xt_l _ hc2
          have hk5 : (xt G L68).2.1 b5 = 0 := by rw [eL68]; exact xt_k _ hc5 hk5
          have hc5 : b5 < (xt G L68).1 := by rw [eL68]; exact xt_l _ hc5
          have hk8 : (xt G L68).2.1 b8 = 0 := by rw [eL68]; exact xt_k _ hc8 hk8
          have hc8 : b8 < (xt G L68).1 := by rw [eL68]; exact xt_l _ hc8
          have hk10 : (xt G L68).2.1 b10 = 0 := by rw [eL68]; exact xt_k _ hc10 hk10
          have hc10 : b10 < (xt G L68).1 := by rw [eL68]; exact xt_l _ hc10
          have hk57 : (xt G L68).2.1 b57 = 0 := by rw [eL68]; exact xt_k _ hc57 hk57
          have hc57 : b57 < (xt G L68).1 := by rw [eL68]; exact xt_l _ hc57
          have hk65 : (xt G L68).2.1 b65 = 0 := by rw [eL68]; exact xt_k _ hc65 hk65
          have hc65 : b65 < (xt G L68).1 := by rw [eL68]; exact xt_l _ hc65
          have hag := agr_t (xt_ge _ _) hag hn70
          refine lv_aload_n hx hb dX11_encode_89 rfl (lv_at hl 0 rfl) ?_
          refine va_get (D := D) (ci := 11) (v := va_re ad69 (y66.2.2 a 4)) (C := RX11) (T := TX11) (N := 5) hx hb hts (mus hf_X11) hown hK hP a (wld_o ct ad69 (xt G L68) y66.2 hc hk (by decide)) rfl 4 (by decide) (hts (.fieldLink RX11 31 "VideoSuite" "coder" "LVideoSuite$Coder;") (mu mw_886)) (fun _ h9 => h9) rfl dX11_encode_90 ?_
          refine lv_iconst (v := (0 : Int32)) hx hb dX11_encode_93 (by decide) ?_
          obtain ⟨b71, ho71, hc71, hk71, hF⟩ := dr_some hF
          refine W_st (st' := [.int (0 : Int32), .ref (ad69 b71)]) (by rw [va_some ho71]) ?_
          refine va_put (D := D) (ci := 0) (v := .int (0 : Int32)) (ty := .int) (C := RX0) (T := TX0) (N := 21) hx hb hts (mus hf_X0) tyX0 tyX0_ok nmX0 hown hK hP hD hS b71 (wld_o ct ad69 (xt G L68) y66.2 hc71 hk71 (by decide)) rfl 10 (by decide) (hts (.fieldLink RX11 361 "VideoSuite$Coder" "waiting" "I") (mu mw_825)) (fun _ h9 => h9) rfl (by decide +kernel) rfl rfl (Nat.le_of_ble_eq_true rfl) dX11_encode_94 (fun H locs hP hD hS => ?_)
          obtain ⟨M72, eM72, hF⟩ := ltt_some hF
          rw [set_oI ct ad69 (xt G L68) y66.2 hc71 hk71 (by decide) (by rfl), ← eM72] at hP hD
          refine lv_goto (tgt := 169) hx hb dX11_encode_97 (by decide) ?_
          obtain rfl := Option.some.inj hF
          have e1 : L14 = L68 := by rw [hT]; exact List.append_nil _
          have e2 : y12.2 = M72 := h2
          rw [e1] at J12
          try rw [e2] at J12
          exact J12 _ hag _ _ _ hP hD hS (lv_sub hl [0] rfl)
        clear hF
        refine itrA_rule (fun (s61 : NN × Int32 × DD) (r74 : NN) => (∃ t, s61.1 = [] ++ t) → L63 = s61.1 ++ r74 → ∀ (ad73 : Nat → Nat), agr G.1 ad ad73 → ∀ (H : Heap) (locs : List Loc) (ls : Array Slot), va_P D classes (wld ct ad73 (xt G s61.1) s61.2.2) H → va_D A (wld ct ad73 (xt G s61.1) s61.2.2) → va_S A s.heap H locs → lv_has ls 3 [(2, .int s61.2.1), (1, .int x59), (0, .ref (ad73 a))] → W p l e (headSpec wuX11_encode ({ frames := 9, cells := y.1.length, slots := wt y.1, locals := 272 })).room s m ([.ref (ad a)] : List Value).toArray below meth c H locs (s61.1 : NN).length (wt s61.1) (MQ below (va_Qi (fun (q : Int32) (u : Nat → Nat) => q = y.2.2 ∧ agr G.1 ad u) (fun u t => kE D ct u (xt G y.1) A y.2.1 t) A) ([.ref (ad a)] : List Value).toArray s y.1.length (wt y.1) A) (F0 m 60 ls [])) ?_ _ _ _ hy60 ⟨[], (List.append_nil _).symm⟩ eL63 _ hag _ _ _ hP hD hS (lv_sub hl [0, 1, 2] rfl)
        rintro s61 r74 ⟨z75, hF, ⟨t60, et60⟩, hwz75⟩ ⟨u60, eu60⟩ eq60 ad73 hag H locs ls hP hD hS hl
        try dsimp only at hF
        obtain ⟨L76, eL76⟩ : ∃ x, x = s61.1 ++ z75.1 := ⟨_, rfl⟩
        obtain ⟨w77, hw77⟩ : ∃ x, x = z75 := ⟨_, rfl⟩
        rw [← hw77] at hF
        have hbl : L76.length ≤ y.1.length ∧ wt L76 ≤ wt y.1 := room_d (show L63 = L76 ++ t60 by rw [eq60, et60, eL76]; simp only [List.append_assoc]) hbl63
        have hT : L76 = s61.1 ++ w77.1 := by rw [eL76, hw77]
        have h2 : z75.2 = w77.2 := by rw [hw77]
        have hk : (xt G s61.1).2.1 a = 11 := by rw [eu60]; exact xt_k _ hc hk
        have hc : a < (xt G s61.1).1 := by rw [eu60]; exact xt_l _ hc
        have hk2 : (xt G s61.1).2.1 b2 = 0 := by rw [eu60]; exact xt_k _ hc2 hk2
        have hc2 : b2 < (xt G s61.1).1 := by rw [eu60]; exact xt_l _ hc2
        have hk5 : (xt G s61.1).2.1 b5 = 0 := by rw [eu60]; exact xt_k _ hc5 hk5
        have hc5 : b5 < (xt G s61.1).1 := by rw [eu60]; exact xt_l _ hc5
        have hk8 : (xt G s61.1).2.1 b8 = 0 := by rw [eu60]; exact xt_k _ hc8 hk8
        have hc8 : b8 < (xt G s61.1).1 := by rw [eu60]; exact xt_l _ hc8
        have hk10 : (xt G s61.1).2.1 b10 = 0 := by rw [eu60]; exact xt_k _ hc10 hk10
        have hc10 : b10 < (xt G s61.1).1 := by rw [eu60]; exact xt_l _ hc10
        have hk57 : (xt G s61.1).2.1 b57 = 0 := by rw [eu60]; exact xt_k _ hc57 hk57
        have hc57 : b57 < (xt G s61.1).1 := by rw [eu60]; exact xt_l _ hc57
        refine lv_iload_n hx hb dX11_encode_60 rfl (lv_at hl 0 rfl) ?_
        refine lv_iload_n hx hb dX11_encode_61 rfl (lv_at hl 1 rfl) ?_
        refine lv_icmp_ge (tgt := 80) hx hb dX11_encode_62 (by decide) (fun c78 => ?_) (fun c78 => ?_)
        · rw [if_pos c78] at hF
          obtain rfl := Option.some.inj hF
          have e1 : L76 = s61.1 := by rw [hT]; exact List.append_nil _
          have e2 : z75.2 = .inr ((s61.2.1, s61.2.2)) := h2
          rw [e2] at hwz75
          obtain ⟨hw1, hw2⟩ := hwz75
          have e8 : L63 = s61.1 := by rw [eq60, hw2, ← eL76, e1]
          rw [e8] at K60
          try rw [← hw1] at K60
          exact K60 _ hag _ _ _ hP hD hS (lv_sub hl [1, 2] rfl)
        · rw [if_neg c78] at hF
          refine lv_aload_n hx hb dX11_encode_65 rfl (lv_at hl 2 rfl) ?_
          refine va_get (D := D) (ci := 11) (v := va_re ad73 (s61.2.2.2 a 4)) (C := RX11) (T := TX11) (N := 5) hx hb hts (mus hf_X11) hown hK hP a (wld_o ct ad73 (xt G s61.1) s61.2.2 hc hk (by decide)) rfl 4 (by decide) (hts (.fieldLink RX11 31 "VideoSuite" "coder" "LVideoSuite$Coder;") (mu mw_886)) (fun _ h9 => h9) rfl dX11_encode_66 ?_
          refine lv_iload_n hx hb dX11_encode_69 rfl (lv_at hl 0 rfl) ?_
          refine lv_iconst (v := (0 : Int32)) hx hb dX11_encode_70 (by decide) ?_
          obtain ⟨b79, ho79, hc79, hk79, hF⟩ := dr_some hF
          refine W_st (st' := [.int (0 : Int32), .int s61.2.1, .ref (ad73 b79)]) (by rw [va_some ho79]) ?_
          obtain ⟨y80, hy80, hF⟩ := bnd_some hF
          obtain ⟨w81, hF, ew81⟩ := app_some hF
          obtain ⟨L82, eL82, hF⟩ := ltt_some hF
          have hT82 : L76 = (s61.1 ++ y80.1) ++ w81.1 := by rw [hT, ew81]; simp only [List.append_assoc]
          have hf9 := wA_in hD hA9 hS
          refine va_callv (va_runV (As := [.int s61.2.1, .int (0 : Int32)]) (rest := []) ⟨hx, hb, hml, hown, hts⟩ (kX0_codePicture l D ct ad73 Z (xt G s61.1) s61.2.2 _ b79 s61.2.1 ((0 : Int32)) y80 hc79 hk79 hy80) (cwV 2 hts gX11_encode_X0_codePicture rfl rfl rfl (by decide +kernel) ⟨Nat.le_of_ble_eq_true rfl, Nat.le_of_ble_eq_true rfl⟩) ⟨fun a U g mk q => by obtain ⟨q0, q1, qP, qK, qD, qZ, qN⟩ := q; exact ⟨q0, q1, qP, va_K.moved (u := U) (U := U.calling g mk a) (Vm.Alike.refl U.vm) qK, qD, sF.moved (u := U) (U := U.calling g mk a) (Vm.Alike.refl U.vm) qZ, nF.same rfl qN⟩, va_recv hK hP (ci := 0) (q0 := b79) rfl (wld_o ct ad73 (xt G s61.1) s61.2.2 hc79 hk79 (by decide)), fun U hU hW => ⟨rfl, by rw [hU], by rw [hU]; exact hP, va_K.moved hW.alike hK, hD.weaken (fun _ _ _ _ => trivial), by rw [hU]; exact ((hZ.kept hS.2.1).narrow hf9).moved hW.alike, hN.warm hW⟩⟩ rfl rfl hl.1 rfl (lv_room (Nat.le_of_ble_eq_true rfl)) dX11_encode_71 (room_s hT82 hbl)) hS (fun q _ h => hf9 q h) hf9 (fun ad83 t H locs ht hvm hw hB hz1 hk1 hS => ?_)
          have hn84 := hw
          obtain ⟨hP, hK9, hD9⟩ := hB
          rw [ht] at hP
          have hD := hD9.weaken (fun _ q _ h => hf9 q.1 h)
          rw [xt_xt, ← eL82] at hP hD
          refine W_cs (k := L82.length) (n := wt L82) (by rw [eL82]; exact (len_s s61.1 y80.1).symm) (by rw [eL82]; exact (wt_app s61.1 y80.1).symm) ?_
          have hT : L76 = L82 ++ w81.1 := by rw [hT82, eL82]
          have h2 : z75.2 = w81.2 := by rw [h2, ew81]
          have hl := lv_sub (l' := [(2, .int s61.2.1), (1, .int x59), (0, .ref (ad73 a))]) hl [0, 1, 2] rfl
          have e9 : ([(2, .int s61.2.1), (1, .int x59), (0, .ref (ad73 a))] : List (Nat × Value)) = [(2, .int s61.2.1), (1, .int x59), (0, .ref (ad83 a))] := (by first | rfl | simp only [hn84 a hc])
          rw [e9] at hl
          clear e9
          have hk : (xt G L82).2.1 a = 11 := by rw [eL82]; exact xt_k _ hc hk
          have hc : a < (xt G L82).1 := by rw [eL82]; exact xt_l _ hc
          have hk2 : (xt G L82).2.1 b2 = 0 := by rw [eL82]; exact xt_k _ hc2 hk2
          have hc2 : b2 < (xt G L82).1 := by rw [eL82]; exact xt_l _ hc2
          have hk5 : (xt G L82).2.1 b5 = 0 := by rw [eL82]; exact xt_k _ hc5 hk5
          have hc5 : b5 < (xt G L82).1 := by rw [eL82]; exact xt_l _ hc5
          have hk8 : (xt G L82).2.1 b8 = 0 := by rw [eL82]; exact xt_k _ hc8 hk8
          have hc8 : b8 < (xt G L82).1 := by rw [eL82]; exact xt_l _ hc8
          have hk10 : (xt G L82).2.1 b10 = 0 := by rw [eL82]; exact xt_k _ hc10 hk10
          have hc10 : b10 < (xt G L82).1 := by rw [eL82]; exact xt_l _ hc10
          have hk57 : (xt G L82).2.1 b57 = 0 := by rw [eL82]; exact xt_k _ hc57 hk57
          have hc57 : b57 < (xt G L82).1 := by rw [eL82]; exact xt_l _ hc57
          have hk79 : (xt G L82).2.1 b79 = 0 := by rw [eL82]; exact xt_k _ hc79 hk79
          have hc79 : b79 < (xt G L82).1 := by rw [eL82]; exact xt_l _ hc79
          have hag := agr_t (xt_ge _ _) hag hn84
          obtain ⟨x85, ex85, hF⟩ := ltt_some hF
          refine lv_iinc (v := x85) (lv' := [(2, .int x85), (1, .int x59), (0, .ref (ad83 a))]) hx hb dX11_encode_74 hl (k := 0) rfl (by rw [ex85]; rfl) (by decide) rfl (fun ls hl => ?_)
          refine lv_goto (tgt := 60) hx hb dX11_encode_77 (by decide) ?_
          obtain rfl := Option.some.inj hF
          have e1 : L76 = L82 := by rw [hT]; exact List.append_nil _
          have e2 : z75.2 = .inl (L82, (x85, y80.2)) := h2
          rw [e2] at hwz75
          obtain ⟨r2, er2, hwz75⟩ := hwz75
          exact hwz75 ⟨u60 ++ z75.1, by show L82 = _; rw [← e1, eL76, eu60]; simp only [List.append_assoc]⟩ (by show L63 = L82 ++ r2; rw [eq60, er2, ← e1, eL76]; simp only [List.append_assoc]) _ hag _ _ _ hP hD hS (lv_sub hl [0, 1, 2] rfl)
    clear hF
    have hF := hy7
    clear hy7
    refine lv_if_eq (tgt := 31) hx hb dX11_encode_17 (by decide) (fun c86 => ?_) (fun c86 => ?_)
    · rw [if_pos c86] at hF
      obtain rfl := Option.some.inj hF
      exact J7 _ _ _ hP hD hS (lv_sub hl [0] rfl)
    · rw [if_neg c86] at hF
      cases hF
  clear hF
  have hF := hy4
  clear hy4
  refine lv_if_eq (tgt := 20) hx hb dX11_encode_7 (by decide) (fun c87 => ?_) (fun c87 => ?_)
  · rw [if_pos c87] at hF
    cases hF
  · rw [if_neg c87] at hF
    obtain rfl := Option.some.inj hF
    exact J4 _ _ _ hP hD hS (lv_sub hl [0] rfl)
set_option maxRecDepth 20000 in
theorem gX11_finish_X0_isOpen : GoodIn wuX11_finish (wsV RX11 324 RX0 yX0_isOpen wuX0_isOpen) := gu_V mw_2366 mw_2367 mw_2368 mw_175 mw_2369
set_option maxRecDepth 20000 in
set_option maxRecDepth 20000 in
theorem gX11_finish_X0_codePicture : GoodIn wuX11_finish (wsV RX11 364 RX0 yX0_codePicture wuX0_codePicture) := gu_V mw_2428 mw_2429 mw_2430 mw_175 mw_2431
theorem dX11_finish_0 : decode cX11_finish 0 = .ok (.aload_n 0, 1) := by decide +kernel
theorem dX11_finish_1 : decode cX11_finish 1 = .ok (.getfield 31, 3) := by decide +kernel
theorem dX11_finish_4 : decode cX11_finish 4 = .ok (.invokevirtual 324, 3) := by decide +kernel
theorem dX11_finish_7 : decode cX11_finish 7 = .ok (.ifCond .ne 14, 3) := by decide +kernel
theorem dX11_finish_10 : decode cX11_finish 10 = .ok (.new 40, 3) := by decide +kernel
theorem dX11_finish_13 : decode cX11_finish 13 = .ok (.dup, 1) := by decide +kernel
theorem dX11_finish_14 : decode cX11_finish 14 = .ok (.ldc_w 328, 3) := by decide +kernel
theorem dX11_finish_17 : decode cX11_finish 17 = .ok (.invokespecial 44, 3) := by decide +kernel
theorem dX11_finish_20 : decode cX11_finish 20 = .ok (.athrow, 1) := by decide +kernel
theorem dX11_finish_21 : decode cX11_finish 21 = .ok (.iconst 0, 1) := by decide +kernel
theorem dX11_finish_22 : decode cX11_finish 22 = .ok (.istore_n 1, 1) := by decide +kernel
theorem dX11_finish_23 : decode cX11_finish 23 = .ok (.iload_n 1, 1) := by decide +kernel
theorem dX11_finish_24 : decode cX11_finish 24 = .ok (.aload_n 0, 1) := by decide +kernel
theorem dX11_finish_25 : decode cX11_finish 25 = .ok (.getfield 31, 3) := by decide +kernel
theorem dX11_finish_28 : decode cX11_finish 28 = .ok (.getfield 361, 3) := by decide +kernel
theorem dX11_finish_31 : decode cX11_finish 31 = .ok (.if_icmp .ge 18, 3) := by decide +kernel
theorem dX11_finish_34 : decode cX11_finish 34 = .ok (.aload_n 0, 1) := by decide +kernel
theorem dX11_finish_35 : decode cX11_finish 35 = .ok (.getfield 31, 3) := by decide +kernel
theorem dX11_finish_38 : decode cX11_finish 38 = .ok (.iload_n 1, 1) := by decide +kernel
theorem dX11_finish_39 : decode cX11_finish 39 = .ok (.iconst 0, 1) := by decide +kernel
theorem dX11_finish_40 : decode cX11_finish 40 = .ok (.invokevirtual 364, 3) := by decide +kernel
theorem dX11_finish_43 : decode cX11_finish 43 = .ok (.iinc 1 1, 3) := by decide +kernel
theorem dX11_finish_46 : decode cX11_finish 46 = .ok (.goto (-23), 3) := by decide +kernel
theorem dX11_finish_49 : decode cX11_finish 49 = .ok (.aload_n 0, 1) := by decide +kernel
theorem dX11_finish_50 : decode cX11_finish 50 = .ok (.getfield 31, 3) := by decide +kernel
theorem dX11_finish_53 : decode cX11_finish 53 = .ok (.iconst 0, 1) := by decide +kernel
theorem dX11_finish_54 : decode cX11_finish 54 = .ok (.putfield 361, 3) := by decide +kernel
theorem dX11_finish_57 : decode cX11_finish 57 = .ok (.aload_n 0, 1) := by decide +kernel
theorem dX11_finish_58 : decode cX11_finish 58 = .ok (.getfield 31, 3) := by decide +kernel
theorem dX11_finish_61 : decode cX11_finish 61 = .ok (.getfield 370, 3) := by decide +kernel
theorem dX11_finish_64 : decode cX11_finish 64 = .ok (.ireturn, 1) := by decide +kernel
noncomputable def FX11_finish (G : GG) (M : DD) (a : Nat)  : Option (NN × DD × Int32) :=
  dr (xt G []) 0 ((M.2 a 4)) fun b2 =>
  bnd (FX0_isOpen (xt G []) M b2) fun y3 =>
  bnd (if y3.2 = ((0 : Int32)) then (none) else
  (some ())) fun (y4 : Unit) =>
  bnd (itrA (fun (s6 : NN × Int32 × DD) => ((dr (xt G s6.1) 0 ((s6.2.2.2 a 4)) fun b19 =>
  ltt (s6.2.2.1 b19 10) fun x20 =>
  if x20 ≤ s6.2.1 then (some ([], .inr ((s6.2.1, s6.2.2)))) else
  (bnd (FX0_codePicture (xt G s6.1) s6.2.2 b19 s6.2.1 ((0 : Int32))) fun y22 =>
  app y22.1 <|
  ltt (s6.1 ++ y22.1) fun L24 =>
  ltt (s6.2.1 + (1 : Int32)) fun x27 =>
  some ([], .inl (L24, (x27, y22.2))))) : Option (NN × ((NN × Int32 × DD) ⊕ (Int32 × DD))))) 1000000 ([], ((0 : Int32), y3.1))) fun (y5 : NN × Int32 × DD) =>
  app y5.1 <|
  ltt ([] ++ y5.1) fun L8 =>
  dr (xt G L8) 0 ((y5.2.2.2 a 4)) fun b10 =>
  ltt (uI y5.2.2 b10 10 ((0 : Int32))) fun M11 =>
  dr (xt G L8) 0 ((M11.2 a 4)) fun b12 =>
  ltt (M11.1 b12 16) fun x13 =>
  some ([], (M11, x13))
set_option maxHeartbeats 4000000 in
set_option maxRecDepth 100000 in
theorem kX11_finish (l : Launch) (D : va_G) (ct : CT) (ad : Nat → Nat) (Z : Nat → Nat) (G : GG) (M : DD) (sz : Nat) (a : Nat)  (y : NN × DD × Int32) (hc : a < G.1) (hk : G.2.1 a = 11) (hF : FX11_finish G M a  = some y) : Met l yX11_finish wuX11_finish ({ frames := 9, cells := y.1.length, slots := wt y.1, locals := 272 }) (va_Pc [.ref (ad a)] (kB D ct ad Z G M sz)) (va_Qi (fun (q : Int32) (u : Nat → Nat) => q = y.2.2 ∧ agr G.1 ad u) (fun u t => kE D ct u (xt G y.1) (wA ad G sz) y.2.1 t) (wA ad G sz)) y.1.length (wt y.1) (wA ad G sz) := by
  refine Met.ofW (cc := cX11_finish) (maxL := 2) (ret := (some .int)) (by decide) rfl ?_
  intro p e s m args below meth c s₁ B hml hv
  obtain ⟨rfl, hsz, hP, hK, hD0, hZ, hN⟩ := hv
  have hx := B.exec
  have hb := B.bytes
  have hr := B.returns
  have hts := atoms_spec (ws := wuX11_finish) B.pre
  have hown : s.vm.findClass RX11 = some m.cls := findClass_of_methodNamed B.named
  have hlocks := B.notSynchronized
  subst hsz
  have hD := wD_self (sz := s.heap.size) hD0
  have hA9 : ∀ q, s.heap.size ≤ q → wA ad G s.heap.size q := fun q h => Or.inr h
  generalize hAe : wA ad G s.heap.size = A at hD hA9 hZ ⊢
  have hS : va_S A s.heap s.heap [] := va_S.rf
  have hl := lv_entry ([.ref (ad a)]) (n := 2) (Nat.le_of_ble_eq_true rfl)
  rw [lg_entry_eq]
  generalize (lg_sl ([.ref (ad a)]) ++ List.replicate (2 - (lg_sl ([.ref (ad a)])).length) Slot.unset).toArray = ls at hl ⊢
  have hl : lv_has ls 2 [(0, .ref (ad a))] := hl
  unfold FX11_finish at hF
  rw [← wld_0 ct ad G M] at hP hD
  have hk := xt_k0 hc hk
  have hc := xt_l0 hc
  have hag := agr_rf G.1 ad
  obtain ⟨w0, hw0⟩ : ∃ z, z = y := ⟨_, rfl⟩
  rw [← hw0] at hF
  have hT : y.1 = [] ++ w0.1 := by rw [hw0]; rfl
  have h2 : y.2 = w0.2 := by rw [hw0]
  have hbl : y.1.length ≤ y.1.length ∧ wt y.1 ≤ wt y.1 := ⟨Nat.le_refl _, Nat.le_refl _⟩
  refine lv_aload_n hx hb dX11_finish_0 rfl (lv_at hl 0 rfl) ?_
  refine va_get (D := D) (ci := 11) (v := va_re ad (M.2 a 4)) (C := RX11) (T := TX11) (N := 5) hx hb hts (mus hf_X11) hown hK hP a (wld_o ct ad (xt G []) M hc hk (by decide)) rfl 4 (by decide) (hts (.fieldLink RX11 31 "VideoSuite" "coder" "LVideoSuite$Coder;") (mu mw_886)) (fun _ h9 => h9) rfl dX11_finish_1 ?_
  obtain ⟨b2, ho2, hc2, hk2, hF⟩ := dr_some hF
  refine W_st (st' := [.ref (ad b2)]) (by rw [va_some ho2]) ?_
  obtain ⟨y3, hy3, hF⟩ := bnd_some hF
  have hf9 := wA_in hD hA9 hS
  refine va_calli (va_runV (As := []) (rest := []) ⟨hx, hb, hml, hown, hts⟩ (kX0_isOpen l D ct ad Z (xt G []) M s.heap.size b2 y3 hc2 hk2 hy3) (cwV 0 hts gX11_finish_X0_isOpen rfl rfl rfl (by decide +kernel) ⟨Nat.le_of_ble_eq_true rfl, Nat.le_of_ble_eq_true rfl⟩) ⟨fun a U g mk q => by obtain ⟨q0, q1, qP, qK, qD, qZ, qN⟩ := q; exact ⟨q0, q1, qP, va_K.moved (u := U) (U := U.calling g mk a) (Vm.Alike.refl U.vm) qK, qD, sF.moved (u := U) (U := U.calling g mk a) (Vm.Alike.refl U.vm) qZ, nF.same rfl qN⟩, va_recv hK hP (ci := 0) (q0 := b2) rfl (wld_o ct ad (xt G []) M hc2 hk2 (by decide)), fun U hU hW => ⟨rfl, by rw [hU], by rw [hU]; exact hP, va_K.moved hW.alike hK, hD.weaken (fun _ _ _ _ => trivial), by rw [hU]; exact ((hZ.kept hS.2.1).narrow hf9).moved hW.alike, hN.warm hW⟩⟩ rfl rfl hl.1 rfl (lv_room (Nat.le_of_ble_eq_true rfl)) dX11_finish_4 (room_d hT hbl)) hS (fun q _ h => hf9 q h) hf9 (fun r u t H locs ht hvm hw hB hz1 hk1 hS => ?_)
  obtain ⟨hP, hK9, hD9⟩ := hB
  rw [ht] at hP
  try dsimp only at hw
  subst hw
  refine W_cs (k := ([] : NN).length) (n := wt []) rfl rfl ?_
  have hD := hD9.weaken (fun _ q _ h => hf9 q.1 h)
  obtain ⟨y4, hy4, hF⟩ := bnd_some hF
  have J4 : ∀ (H : Heap) (locs : List Loc) (ls : Array Slot), va_P D classes (wld ct ad (xt G []) y3.1) H → va_D A (wld ct ad (xt G []) y3.1) → va_S A s.heap H locs → lv_has ls 2 [(0, .ref (ad a))] → W p l e (headSpec wuX11_finish ({ frames := 9, cells := y.1.length, slots := wt y.1, locals := 272 })).room s m ([.ref (ad a)] : List Value).toArray below meth c H locs ([] : NN).length (wt []) (MQ below (va_Qi (fun (q : Int32) (u : Nat → Nat) => q = y.2.2 ∧ agr G.1 ad u) (fun u t => kE D ct u (xt G y.1) A y.2.1 t) A) ([.ref (ad a)] : List Value).toArray s y.1.length (wt y.1) A) (F0 m 21 ls []) := by
    intro H locs ls hP hD hS hl
    refine lv_iconst (v := (0 : Int32)) hx hb dX11_finish_21 (by decide) ?_
    refine lv_istore_n (lv' := [(1, .int (0 : Int32)), (0, .ref (ad a))]) hx hb dX11_finish_22 rfl hl (by decide) rfl (fun ls hl => ?_)
    obtain ⟨y5, hy5, hF⟩ := bnd_some hF
    obtain ⟨w7, hF, ew7⟩ := app_some hF
    obtain ⟨L8, eL8, hF⟩ := ltt_some hF
    have hT8 : y.1 = ([] ++ y5.1) ++ w7.1 := by rw [hT, ew7]; simp only [List.append_assoc]
    have hbl8 : L8.length ≤ y.1.length ∧ wt L8 ≤ wt y.1 := by rw [eL8]; exact room_d hT8 hbl
    have K5 : ∀ (ad9 : Nat → Nat), agr G.1 ad ad9 → ∀ (H : Heap) (locs : List Loc) (ls : Array Slot), va_P D classes (wld ct ad9 (xt G L8) y5.2.2) H → va_D A (wld ct ad9 (xt G L8) y5.2.2) → va_S A s.heap H locs → lv_has ls 2 [(0, .ref (ad9 a))] → W p l e (headSpec wuX11_finish ({ frames := 9, cells := y.1.length, slots := wt y.1, locals := 272 })).room s m ([.ref (ad a)] : List Value).toArray below meth c H locs (L8 : NN).length (wt L8) (MQ below (va_Qi (fun (q : Int32) (u : Nat → Nat) => q = y.2.2 ∧ agr G.1 ad u) (fun u t => kE D ct u (xt G y.1) A y.2.1 t) A) ([.ref (ad a)] : List Value).toArray s y.1.length (wt y.1) A) (F0 m 49 ls []) := by
      intro ad9 hag H locs ls hP hD hS hl
      have hT : y.1 = L8 ++ w7.1 := by rw [hT8, eL8]
      have h2 : y.2 = w7.2 := by rw [h2, ew7]
      have hk : (xt G L8).2.1 a = 11 := by rw [eL8]; exact xt_k _ hc hk
      have hc : a < (xt G L8).1 := by rw [eL8]; exact xt_l _ hc
      have hk2 : (xt G L8).2.1 b2 = 0 := by rw [eL8]; exact xt_k _ hc2 hk2
      have hc2 : b2 < (xt G L8).1 := by rw [eL8]; exact xt_l _ hc2
      refine lv_aload_n hx hb dX11_finish_49 rfl (lv_at hl 0 rfl) ?_
      refine va_get (D := D) (ci := 11) (v := va_re ad9 (y5.2.2.2 a 4)) (C := RX11) (T := TX11) (N := 5) hx hb hts (mus hf_X11) hown hK hP a (wld_o ct ad9 (xt G L8) y5.2.2 hc hk (by decide)) rfl 4 (by decide) (hts (.fieldLink RX11 31 "VideoSuite" "coder" "LVideoSuite$Coder;") (mu mw_886)) (fun _ h9 => h9) rfl dX11_finish_50 ?_
      refine lv_iconst (v := (0 : Int32)) hx hb dX11_finish_53 (by decide) ?_
      obtain ⟨b10, ho10, hc10, hk10, hF⟩ := dr_some hF
      refine W_st (st' := [.int (0 : Int32), .ref (ad9 b10)]) (by rw [va_some ho10]) ?_
      refine va_put (D := D) (ci := 0) (v := .int (0 : Int32)) (ty := .int) (C := RX0) (T := TX0) (N := 21) hx hb hts (mus hf_X0) tyX0 tyX0_ok nmX0 hown hK hP hD hS b10 (wld_o ct ad9 (xt G L8) y5.2.2 hc10 hk10 (by decide)) rfl 10 (by decide) (hts (.fieldLink RX11 361 "VideoSuite$Coder" "waiting" "I") (mu mw_825)) (fun _ h9 => h9) rfl (by decide +kernel) rfl rfl (Nat.le_of_ble_eq_true rfl) dX11_finish_54 (fun H locs hP hD hS => ?_)
      obtain ⟨M11, eM11, hF⟩ := ltt_some hF
      rw [set_oI ct ad9 (xt G L8) y5.2.2 hc10 hk10 (by decide) (by rfl), ← eM11] at hP hD
      refine lv_aload_n hx hb dX11_finish_57 rfl (lv_at hl 0 rfl) ?_
      refine va_get (D := D) (ci := 11) (v := va_re ad9 (M11.2 a 4)) (C := RX11) (T := TX11) (N := 5) hx hb hts (mus hf_X11) hown hK hP a (wld_o ct ad9 (xt G L8) M11 hc hk (by decide)) rfl 4 (by decide) (hts (.fieldLink RX11 31 "VideoSuite" "coder" "LVideoSuite$Coder;") (mu mw_886)) (fun _ h9 => h9) rfl dX11_finish_58 ?_
      obtain ⟨b12, ho12, hc12, hk12, hF⟩ := dr_some hF
      refine W_st (st' := [.ref (ad9 b12)]) (by rw [va_some ho12]) ?_
      refine va_get (D := D) (ci := 0) (v := .int (M11.1 b12 16)) (C := RX0) (T := TX0) (N := 21) hx hb hts (mus hf_X0) hown hK hP b12 (wld_o ct ad9 (xt G L8) M11 hc12 hk12 (by decide)) rfl 16 (by decide) (hts (.fieldLink RX11 370 "VideoSuite$Coder" "codedCount" "I") (mu mw_833)) (fun _ h9 => h9) rfl dX11_finish_61 ?_
      obtain ⟨x13, ex13, hF⟩ := ltt_some hF
      refine lv_topi (fun zx13 ezx13 => ?_)
      obtain rfl : x13 = zx13 := ex13.trans ezx13.symm
      obtain rfl := Option.some.inj hF
      have e1 : y.1 = L8 := by rw [hT]; exact List.append_nil _
      have e2 : y.2 = (M11, x13) := h2
      refine W.widen (k := y.1.length) (n := wt y.1) (Nat.le_of_eq (by rw [e1])) (Nat.le_of_eq (by rw [e1])) ?_
      exact W.iret (v := x13) hx hb hr (fun t ht hW => ⟨⟨_, ad9, rfl, ⟨by rw [e2], hag⟩, (by unfold kE; rw [e1, e2]; exact ⟨by rw [ht]; exact hP, va_K.moved hW.alike hK, hD⟩)⟩, hS.F ht⟩) hS.2.2 dX11_finish_64
    clear hF
    refine itrA_rule (fun (s6 : NN × Int32 × DD) (r15 : NN) => (∃ t, s6.1 = [] ++ t) → L8 = s6.1 ++ r15 → ∀ (ad14 : Nat → Nat), agr G.1 ad ad14 → ∀ (H : Heap) (locs : List Loc) (ls : Array Slot), va_P D classes (wld ct ad14 (xt G s6.1) s6.2.2) H → va_D A (wld ct ad14 (xt G s6.1) s6.2.2) → va_S A s.heap H locs → lv_has ls 2 [(1, .int s6.2.1), (0, .ref (ad14 a))] → W p l e (headSpec wuX11_finish ({ frames := 9, cells := y.1.length, slots := wt y.1, locals := 272 })).room s m ([.ref (ad a)] : List Value).toArray below meth c H locs (s6.1 : NN).length (wt s6.1) (MQ below (va_Qi (fun (q : Int32) (u : Nat → Nat) => q = y.2.2 ∧ agr G.1 ad u) (fun u t => kE D ct u (xt G y.1) A y.2.1 t) A) ([.ref (ad a)] : List Value).toArray s y.1.length (wt y.1) A) (F0 m 23 ls [])) ?_ _ _ _ hy5 ⟨[], (List.append_nil _).symm⟩ eL8 _ hag _ _ _ hP hD hS (lv_sub hl [0, 1] rfl)
    rintro s6 r15 ⟨z16, hF, ⟨t5, et5⟩, hwz16⟩ ⟨u5, eu5⟩ eq5 ad14 hag H locs ls hP hD hS hl
    try dsimp only at hF
    obtain ⟨L17, eL17⟩ : ∃ x, x = s6.1 ++ z16.1 := ⟨_, rfl⟩
    obtain ⟨w18, hw18⟩ : ∃ x, x = z16 := ⟨_, rfl⟩
    rw [← hw18] at hF
    have hbl : L17.length ≤ y.1.length ∧ wt L17 ≤ wt y.1 := room_d (show L8 = L17 ++ t5 by rw [eq5, et5, eL17]; simp only [List.append_assoc]) hbl8
    have hT : L17 = s6.1 ++ w18.1 := by rw [eL17, hw18]
    have h2 : z16.2 = w18.2 := by rw [hw18]
    have hk : (xt G s6.1).2.1 a = 11 := by rw [eu5]; exact xt_k _ hc hk
    have hc : a < (xt G s6.1).1 := by rw [eu5]; exact xt_l _ hc
    have hk2 : (xt G s6.1).2.1 b2 = 0 := by rw [eu5]; exact xt_k _ hc2 hk2
    have hc2 : b2 < (xt G s6.1).1 := by rw [eu5]; exact xt_l _ hc2
    refine lv_iload_n hx hb dX11_finish_23 rfl (lv_at hl 0 rfl) ?_
    refine lv_aload_n hx hb dX11_finish_24 rfl (lv_at hl 1 rfl) ?_
    refine va_get (D := D) (ci := 11) (v := va_re ad14 (s6.2.2.2 a 4)) (C := RX11) (T := TX11) (N := 5) hx hb hts (mus hf_X11) hown hK hP a (wld_o ct ad14 (xt G s6.1) s6.2.2 hc hk (by decide)) rfl 4 (by decide) (hts (.fieldLink RX11 31 "VideoSuite" "coder" "LVideoSuite$Coder;") (mu mw_886)) (fun _ h9 => h9) rfl dX11_finish_25 ?_
    obtain ⟨b19, ho19, hc19, hk19, hF⟩ := dr_some hF
    refine W_st (st' := [.ref (ad14 b19), .int s6.2.1]) (by rw [va_some ho19]) ?_
    refine va_get (D := D) (ci := 0) (v := .int (s6.2.2.1 b19 10)) (C := RX0) (T := TX0) (N := 21) hx hb hts (mus hf_X0) hown hK hP b19 (wld_o ct ad14 (xt G s6.1) s6.2.2 hc19 hk19 (by decide)) rfl 10 (by decide) (hts (.fieldLink RX11 361 "VideoSuite$Coder" "waiting" "I") (mu mw_825)) (fun _ h9 => h9) rfl dX11_finish_28 ?_
    obtain ⟨x20, ex20, hF⟩ := ltt_some hF
    refine lv_topi (fun zx20 ezx20 => ?_)
    obtain rfl : x20 = zx20 := ex20.trans ezx20.symm
    refine lv_icmp_ge (tgt := 49) hx hb dX11_finish_31 (by decide) (fun c21 => ?_) (fun c21 => ?_)
    · rw [if_pos c21] at hF
      obtain rfl := Option.some.inj hF
      have e1 : L17 = s6.1 := by rw [hT]; exact List.append_nil _
      have e2 : z16.2 = .inr ((s6.2.1, s6.2.2)) := h2
      rw [e2] at hwz16
      obtain ⟨hw1, hw2⟩ := hwz16
      have e8 : L8 = s6.1 := by rw [eq5, hw2, ← eL17, e1]
      rw [e8] at K5
      try rw [← hw1] at K5
      exact K5 _ hag _ _ _ hP hD hS (lv_sub hl [1] rfl)
    · rw [if_neg c21] at hF
      refine lv_aload_n hx hb dX11_finish_34 rfl (lv_at hl 1 rfl) ?_
      refine va_get (D := D) (ci := 11) (v := va_re ad14 (s6.2.2.2 a 4)) (C := RX11) (T := TX11) (N := 5) hx hb hts (mus hf_X11) hown hK hP a (wld_o ct ad14 (xt G s6.1) s6.2.2 hc hk (by decide)) rfl 4 (by decide) (hts (.fieldLink RX11 31 "VideoSuite" "coder" "LVideoSuite$Coder;") (mu mw_886)) (fun _ h9 => h9) rfl dX11_finish_35 ?_
      refine lv_iload_n hx hb dX11_finish_38 rfl (lv_at hl 0 rfl) ?_
      refine lv_iconst (v := (0 : Int32)) hx hb dX11_finish_39 (by decide) ?_
      refine W_st (st' := [.int (0 : Int32), .int s6.2.1, .ref (ad14 b19)]) (by rw [va_some ho19]) ?_
      obtain ⟨y22, hy22, hF⟩ := bnd_some hF
      obtain ⟨w23, hF, ew23⟩ := app_some hF
      obtain ⟨L24, eL24, hF⟩ := ltt_some hF
      have hT24 : L17 = (s6.1 ++ y22.1) ++ w23.1 := by rw [hT, ew23]; simp only [List.append_assoc]
      have hf9 := wA_in hD hA9 hS
      refine va_callv (va_runV (As := [.int s6.2.1, .int (0 : Int32)]) (rest := []) ⟨hx, hb, hml, hown, hts⟩ (kX0_codePicture l D ct ad14 Z (xt G s6.1) s6.2.2 _ b19 s6.2.1 ((0 : Int32)) y22 hc19 hk19 hy22) (cwV 2 hts gX11_finish_X0_codePicture rfl rfl rfl (by decide +kernel) ⟨Nat.le_of_ble_eq_true rfl, Nat.le_of_ble_eq_true rfl⟩) ⟨fun a U g mk q => by obtain ⟨q0, q1, qP, qK, qD, qZ, qN⟩ := q; exact ⟨q0, q1, qP, va_K.moved (u := U) (U := U.calling g mk a) (Vm.Alike.refl U.vm) qK, qD, sF.moved (u := U) (U := U.calling g mk a) (Vm.Alike.refl U.vm) qZ, nF.same rfl qN⟩, va_recv hK hP (ci := 0) (q0 := b19) rfl (wld_o ct ad14 (xt G s6.1) s6.2.2 hc19 hk19 (by decide)), fun U hU hW => ⟨rfl, by rw [hU], by rw [hU]; exact hP, va_K.moved hW.alike hK, hD.weaken (fun _ _ _ _ => trivial), by rw [hU]; exact ((hZ.kept hS.2.1).narrow hf9).moved hW.alike, hN.warm hW⟩⟩ rfl rfl hl.1 rfl (lv_room (Nat.le_of_ble_eq_true rfl)) dX11_finish_40 (room_s hT24 hbl)) hS (fun q _ h => hf9 q h) hf9 (fun ad25 t H locs ht hvm hw hB hz1 hk1 hS => ?_)
      have hn26 := hw
      obtain ⟨hP, hK9, hD9⟩ := hB
      rw [ht] at hP
      have hD := hD9.weaken (fun _ q _ h => hf9 q.1 h)
      rw [xt_xt, ← eL24] at hP hD
      refine W_cs (k := L24.length) (n := wt L24) (by rw [eL24]; exact (len_s s6.1 y22.1).symm) (by rw [eL24]; exact (wt_app s6.1 y22.1).symm) ?_
      have hT : L17 = L24 ++ w23.1 := by rw [hT24, eL24]
      have h2 : z16.2 = w23.2 := by rw [h2, ew23]
      have hl := lv_sub (l' := [(1, .int s6.2.1), (0, .ref (ad14 a))]) hl [0, 1] rfl
      have e9 : ([(1, .int s6.2.1), (0, .ref (ad14 a))] : List (Nat × Value)) = [(1, .int s6.2.1), (0, .ref (ad25 a))] := (by first | rfl | simp only [hn26 a hc])
      rw [e9] at hl
      clear e9
      have hk : (xt G L24).2.1 a = 11 := by rw [eL24]; exact xt_k _ hc hk
      have hc : a < (xt G L24).1 := by rw [eL24]; exact xt_l _ hc
      have hk2 : (xt G L24).2.1 b2 = 0 := by rw [eL24]; exact xt_k _ hc2 hk2
      have hc2 : b2 < (xt G L24).1 := by rw [eL24]; exact xt_l _ hc2
      have hk19 : (xt G L24).2.1 b19 = 0 := by rw [eL24]; exact xt_k _ hc19 hk19
      have hc19 : b19 < (xt G L24).1 := by rw [eL24]; exact xt_l _ hc19
      have hag := agr_t (xt_ge _ _) hag hn26
      obtain ⟨x27, ex27, hF⟩ := ltt_some hF
      refine lv_iinc (v := x27) (lv' := [(1, .int x27), (0, .ref (ad25 a))]) hx hb dX11_finish_43 hl (k := 0) rfl (by rw [ex27]; rfl) (by decide) rfl (fun ls hl => ?_)
      refine lv_goto (tgt := 23) hx hb dX11_finish_46 (by decide) ?_
      obtain rfl := Option.some.inj hF
      have e1 : L17 = L24 := by rw [hT]; exact List.append_nil _
      have e2 : z16.2 = .inl (L24, (x27, y22.2)) := h2
      rw [e2] at hwz16
      obtain ⟨r2, er2, hwz16⟩ := hwz16
      exact hwz16 ⟨u5 ++ z16.1, by show L24 = _; rw [← e1, eL17, eu5]; simp only [List.append_assoc]⟩ (by show L8 = L24 ++ r2; rw [eq5, er2, ← e1, eL17]; simp only [List.append_assoc]) _ hag _ _ _ hP hD hS (lv_sub hl [0, 1] rfl)
  clear hF
  have hF := hy4
  clear hy4
  refine lv_if_ne (tgt := 21) hx hb dX11_finish_7 (by decide) (fun c28 => ?_) (fun c28 => ?_)
  · rw [if_neg c28] at hF
    obtain rfl := Option.some.inj hF
    exact J4 _ _ _ hP hD hS (lv_sub hl [0] rfl)
  · rw [if_pos c28] at hF
    cases hF
set_option maxRecDepth 20000 in
theorem gX11_flush_X1_endPicture : GoodIn wuX11_flush (wsV RX11 143 RX1 yX1_endPicture wuX1_endPicture) := gu_V mw_902 mw_903 mw_904 mw_168 mw_905
set_option maxRecDepth 20000 in
set_option maxRecDepth 20000 in
theorem gX11_flush_X7_putOutAll : GoodIn wuX11_flush (wsV RX11 150 RX7 yX7_putOutAll wuX7_putOutAll) := gu_V mw_1102 mw_1063 mw_1064 mw_170 mw_1065
theorem dX11_flush_0 : decode cX11_flush 0 = .ok (.aload_n 0, 1) := by decide +kernel
theorem dX11_flush_1 : decode cX11_flush 1 = .ok (.getfield 24, 3) := by decide +kernel
theorem dX11_flush_4 : decode cX11_flush 4 = .ok (.invokevirtual 143, 3) := by decide +kernel
theorem dX11_flush_7 : decode cX11_flush 7 = .ok (.aload_n 0, 1) := by decide +kernel
theorem dX11_flush_8 : decode cX11_flush 8 = .ok (.getfield 24, 3) := by decide +kernel
theorem dX11_flush_11 : decode cX11_flush 11 = .ok (.getfield 146, 3) := by decide +kernel
theorem dX11_flush_14 : decode cX11_flush 14 = .ok (.invokevirtual 150, 3) := by decide +kernel
theorem dX11_flush_17 : decode cX11_flush 17 = .ok (.aload_n 0, 1) := by decide +kernel
theorem dX11_flush_18 : decode cX11_flush 18 = .ok (.getfield 24, 3) := by decide +kernel
theorem dX11_flush_21 : decode cX11_flush 21 = .ok (.getfield 146, 3) := by decide +kernel
theorem dX11_flush_24 : decode cX11_flush 24 = .ok (.getfield 155, 3) := by decide +kernel
theorem dX11_flush_27 : decode cX11_flush 27 = .ok (.ireturn, 1) := by decide +kernel
noncomputable def FX11_flush (G : GG) (M : DD) (a : Nat)  : Option (NN × DD × Int32) :=
  dr (xt G []) 1 ((M.2 a 3)) fun b2 =>
  bnd (FX1_endPicture (xt G []) M b2) fun y3 =>
  app y3.1 <|
  ltt ([] ++ y3.1) fun L5 =>
  dr (xt G L5) 1 ((y3.2.2 a 3)) fun b8 =>
  dr (xt G L5) 7 ((y3.2.2 b8 1)) fun b9 =>
  bnd (FX7_putOutAll (xt G L5) y3.2 b9) fun y10 =>
  app y10.1 <|
  ltt (L5 ++ y10.1) fun L12 =>
  dr (xt G L12) 1 ((y10.2.2 a 3)) fun b15 =>
  dr (xt G L12) 7 ((y10.2.2 b15 1)) fun b16 =>
  ltt (y10.2.1 b16 14) fun x17 =>
  some ([], (y10.2, x17))
set_option maxHeartbeats 4000000 in
set_option maxRecDepth 100000 in
theorem kX11_flush (l : Launch) (D : va_G) (ct : CT) (ad : Nat → Nat) (Z : Nat → Nat) (G : GG) (M : DD) (sz : Nat) (a : Nat)  (y : NN × DD × Int32) (hc : a < G.1) (hk : G.2.1 a = 11) (hF : FX11_flush G M a  = some y) : Met l yX11_flush wuX11_flush ({ frames := 6, cells := y.1.length, slots := wt y.1, locals := 199 }) (va_Pc [.ref (ad a)] (kB D ct ad Z G M sz)) (va_Qi (fun (q : Int32) (u : Nat → Nat) => q = y.2.2 ∧ agr G.1 ad u) (fun u t => kE D ct u (xt G y.1) (wA ad G sz) y.2.1 t) (wA ad G sz)) y.1.length (wt y.1) (wA ad G sz) := by
  refine Met.ofW (cc := cX11_flush) (maxL := 1) (ret := (some .int)) (by decide) rfl ?_
  intro p e s m args below meth c s₁ B hml hv
  obtain ⟨rfl, hsz, hP, hK, hD0, hZ, hN⟩ := hv
  have hx := B.exec
  have hb := B.bytes
  have hr := B.returns
  have hts := atoms_spec (ws := wuX11_flush) B.pre
  have hown : s.vm.findClass RX11 = some m.cls := findClass_of_methodNamed B.named
  have hlocks := B.notSynchronized
  subst hsz
  have hD := wD_self (sz := s.heap.size) hD0
  have hA9 : ∀ q, s.heap.size ≤ q → wA ad G s.heap.size q := fun q h => Or.inr h
  generalize hAe : wA ad G s.heap.size = A at hD hA9 hZ ⊢
  have hS : va_S A s.heap s.heap [] := va_S.rf
  have hl := lv_entry ([.ref (ad a)]) (n := 1) (Nat.le_of_ble_eq_true rfl)
  rw [lg_entry_eq]
  generalize (lg_sl ([.ref (ad a)]) ++ List.replicate (1 - (lg_sl ([.ref (ad a)])).length) Slot.unset).toArray = ls at hl ⊢
  have hl : lv_has ls 1 [(0, .ref (ad a))] := hl
  unfold FX11_flush at hF
  rw [← wld_0 ct ad G M] at hP hD
  have hk := xt_k0 hc hk
  have hc := xt_l0 hc
  have hag := agr_rf G.1 ad
  obtain ⟨w0, hw0⟩ : ∃ z, z = y := ⟨_, rfl⟩
  rw [← hw0] at hF
  have hT : y.1 = [] ++ w0.1 := by rw [hw0]; rfl
  have h2 : y.2 = w0.2 := by rw [hw0]
  have hbl : y.1.length ≤ y.1.length ∧ wt y.1 ≤ wt y.1 := ⟨Nat.le_refl _, Nat.le_refl _⟩
  refine lv_aload_n hx hb dX11_flush_0 rfl (lv_at hl 0 rfl) ?_
  refine va_get (D := D) (ci := 11) (v := va_re ad (M.2 a 3)) (C := RX11) (T := TX11) (N := 5) hx hb hts (mus hf_X11) hown hK hP a (wld_o ct ad (xt G []) M hc hk (by decide)) rfl 3 (by decide) (hts (.fieldLink RX11 24 "VideoSuite" "decoder" "LVideoSuite$Decoder;") (mu mw_885)) (fun _ h9 => h9) rfl dX11_flush_1 ?_
  obtain ⟨b2, ho2, hc2, hk2, hF⟩ := dr_some hF
  refine W_st (st' := [.ref (ad b2)]) (by rw [va_some ho2]) ?_
  obtain ⟨y3, hy3, hF⟩ := bnd_some hF
  obtain ⟨w4, hF, ew4⟩ := app_some hF
  obtain ⟨L5, eL5, hF⟩ := ltt_some hF
  have hT5 : y.1 = ([] ++ y3.1) ++ w4.1 := by rw [hT, ew4]; simp only [List.append_assoc]
  have hf9 := wA_in hD hA9 hS
  refine va_callv (va_runV (As := []) (rest := []) ⟨hx, hb, hml, hown, hts⟩ (kX1_endPicture l D ct ad Z (xt G []) M _ b2 y3 hc2 hk2 hy3) (cwV 0 hts gX11_flush_X1_endPicture rfl rfl rfl (by decide +kernel) ⟨Nat.le_of_ble_eq_true rfl, Nat.le_of_ble_eq_true rfl⟩) ⟨fun a U g mk q => by obtain ⟨q0, q1, qP, qK, qD, qZ, qN⟩ := q; exact ⟨q0, q1, qP, va_K.moved (u := U) (U := U.calling g mk a) (Vm.Alike.refl U.vm) qK, qD, sF.moved (u := U) (U := U.calling g mk a) (Vm.Alike.refl U.vm) qZ, nF.same rfl qN⟩, va_recv hK hP (ci := 1) (q0 := b2) rfl (wld_o ct ad (xt G []) M hc2 hk2 (by decide)), fun U hU hW => ⟨rfl, by rw [hU], by rw [hU]; exact hP, va_K.moved hW.alike hK, hD.weaken (fun _ _ _ _ => trivial), by rw [hU]; exact ((hZ.kept hS.2.1).narrow hf9).moved hW.alike, hN.warm hW⟩⟩ rfl rfl hl.1 rfl (lv_room (Nat.le_of_ble_eq_true rfl)) dX11_flush_4 (room_s hT5 hbl)) hS (fun q _ h => hf9 q h) hf9 (fun ad6 t H locs ht hvm hw hB hz1 hk1 hS => ?_)
  have hn7 := hw
  obtain ⟨hP, hK9, hD9⟩ := hB
  rw [ht] at hP
  have hD := hD9.weaken (fun _ q _ h => hf9 q.1 h)
  rw [xt_xt, ← eL5] at hP hD
  refine W_cs (k := L5.length) (n := wt L5) (by rw [eL5]; exact (len_s [] y3.1).symm) (by rw [eL5]; exact (wt_app [] y3.1).symm) ?_
  have hT : y.1 = L5 ++ w4.1 := by rw [hT5, eL5]
  have h2 : y.2 = w4.2 := by rw [h2, ew4]
  have hl := lv_sub (l' := [(0, .ref (ad a))]) hl [0] rfl
  have e9 : ([(0, .ref (ad a))] : List (Nat × Value)) = [(0, .ref (ad6 a))] := (by first | rfl | simp only [hn7 a hc])
  rw [e9] at hl
  clear e9
  have hk : (xt G L5).2.1 a = 11 := by rw [eL5]; exact xt_k _ hc hk
  have hc : a < (xt G L5).1 := by rw [eL5]; exact xt_l _ hc
  have hk2 : (xt G L5).2.1 b2 = 1 := by rw [eL5]; exact xt_k _ hc2 hk2
  have hc2 : b2 < (xt G L5).1 := by rw [eL5]; exact xt_l _ hc2
  have hag := agr_t (xt_ge _ _) hag hn7
  refine lv_aload_n hx hb dX11_flush_7 rfl (lv_at hl 0 rfl) ?_
  refine va_get (D := D) (ci := 11) (v := va_re ad6 (y3.2.2 a 3)) (C := RX11) (T := TX11) (N := 5) hx hb hts (mus hf_X11) hown hK hP a (wld_o ct ad6 (xt G L5) y3.2 hc hk (by decide)) rfl 3 (by decide) (hts (.fieldLink RX11 24 "VideoSuite" "decoder" "LVideoSuite$Decoder;") (mu mw_885)) (fun _ h9 => h9) rfl dX11_flush_8 ?_
  obtain ⟨b8, ho8, hc8, hk8, hF⟩ := dr_some hF
  refine W_st (st' := [.ref (ad6 b8)]) (by rw [va_some ho8]) ?_
  refine va_get (D := D) (ci := 1) (v := va_re ad6 (y3.2.2 b8 1)) (C := RX1) (T := TX1) (N := 22) hx hb hts (mus hf_X1) hown hK hP b8 (wld_o ct ad6 (xt G L5) y3.2 hc8 hk8 (by decide)) rfl 1 (by decide) (hts (.fieldLink RX11 146 "VideoSuite$Decoder" "store" "LVideoSuite$Store;") (mu mw_643)) (fun _ h9 => h9) rfl dX11_flush_11 ?_
  obtain ⟨b9, ho9, hc9, hk9, hF⟩ := dr_some hF
  refine W_st (st' := [.ref (ad6 b9)]) (by rw [va_some ho9]) ?_
  obtain ⟨y10, hy10, hF⟩ := bnd_some hF
  obtain ⟨w11, hF, ew11⟩ := app_some hF
  obtain ⟨L12, eL12, hF⟩ := ltt_some hF
  have hT12 : y.1 = (L5 ++ y10.1) ++ w11.1 := by rw [hT, ew11]; simp only [List.append_assoc]
  have hf9 := wA_in hD hA9 hS
  refine va_callv (va_runV (As := []) (rest := []) ⟨hx, hb, hml, hown, hts⟩ (kX7_putOutAll l D ct ad6 Z (xt G L5) y3.2 _ b9 y10 hc9 hk9 hy10) (cwV 0 hts gX11_flush_X7_putOutAll rfl rfl rfl (by decide +kernel) ⟨Nat.le_of_ble_eq_true rfl, Nat.le_of_ble_eq_true rfl⟩) ⟨fun a U g mk q => by obtain ⟨q0, q1, qP, qK, qD, qZ, qN⟩ := q; exact ⟨q0, q1, qP, va_K.moved (u := U) (U := U.calling g mk a) (Vm.Alike.refl U.vm) qK, qD, sF.moved (u := U) (U := U.calling g mk a) (Vm.Alike.refl U.vm) qZ, nF.same rfl qN⟩, va_recv hK hP (ci := 7) (q0 := b9) rfl (wld_o ct ad6 (xt G L5) y3.2 hc9 hk9 (by decide)), fun U hU hW => ⟨rfl, by rw [hU], by rw [hU]; exact hP, va_K.moved hW.alike hK, hD.weaken (fun _ _ _ _ => trivial), by rw [hU]; exact ((hZ.kept hS.2.1).narrow hf9).moved hW.alike, hN.warm hW⟩⟩ rfl rfl hl.1 rfl (lv_room (Nat.le_of_ble_eq_true rfl)) dX11_flush_14 (room_s hT12 hbl)) hS (fun q _ h => hf9 q h) hf9 (fun ad13 t H locs ht hvm hw hB hz1 hk1 hS => ?_)
  have hn14 := hw
  obtain ⟨hP, hK9, hD9⟩ := hB
  rw [ht] at hP
  have hD := hD9.weaken (fun _ q _ h => hf9 q.1 h)
  rw [xt_xt, ← eL12] at hP hD
  refine W_cs (k := L12.length) (n := wt L12) (by rw [eL12]; exact (len_s L5 y10.1).symm) (by rw [eL12]; exact (wt_app L5 y10.1).symm) ?_
  have hT : y.1 = L12 ++ w11.1 := by rw [hT12, eL12]
  have h2 : y.2 = w11.2 := by rw [h2, ew11]
  have hl := lv_sub (l' := [(0, .ref (ad6 a))]) hl [0] rfl
  have e9 : ([(0, .ref (ad6 a))] : List (Nat × Value)) = [(0, .ref (ad13 a))] := (by first | rfl | simp only [hn14 a hc])
  rw [e9] at hl
  clear e9
  have hk : (xt G L12).2.1 a = 11 := by rw [eL12]; exact xt_k _ hc hk
  have hc : a < (xt G L12).1 := by rw [eL12]; exact xt_l _ hc
  have hk2 : (xt G L12).2.1 b2 = 1 := by rw [eL12]; exact xt_k _ hc2 hk2
  have hc2 : b2 < (xt G L12).1 := by rw [eL12]; exact xt_l _ hc2
  have hk8 : (xt G L12).2.1 b8 = 1 := by rw [eL12]; exact xt_k _ hc8 hk8
  have hc8 : b8 < (xt G L12).1 := by rw [eL12]; exact xt_l _ hc8
  have hk9 : (xt G L12).2.1 b9 = 7 := by rw [eL12]; exact xt_k _ hc9 hk9
  have hc9 : b9 < (xt G L12).1 := by rw [eL12]; exact xt_l _ hc9
  have hag := agr_t (xt_ge _ _) hag hn14
  refine lv_aload_n hx hb dX11_flush_17 rfl (lv_at hl 0 rfl) ?_
  refine va_get (D := D) (ci := 11) (v := va_re ad13 (y10.2.2 a 3)) (C := RX11) (T := TX11) (N := 5) hx hb hts (mus hf_X11) hown hK hP a (wld_o ct ad13 (xt G L12) y10.2 hc hk (by decide)) rfl 3 (by decide) (hts (.fieldLink RX11 24 "VideoSuite" "decoder" "LVideoSuite$Decoder;") (mu mw_885)) (fun _ h9 => h9) rfl dX11_flush_18 ?_
  obtain ⟨b15, ho15, hc15, hk15, hF⟩ := dr_some hF
  refine W_st (st' := [.ref (ad13 b15)]) (by rw [va_some ho15]) ?_
  refine va_get (D := D) (ci := 1) (v := va_re ad13 (y10.2.2 b15 1)) (C := RX1) (T := TX1) (N := 22) hx hb hts (mus hf_X1) hown hK hP b15 (wld_o ct ad13 (xt G L12) y10.2 hc15 hk15 (by decide)) rfl 1 (by decide) (hts (.fieldLink RX11 146 "VideoSuite$Decoder" "store" "LVideoSuite$Store;") (mu mw_643)) (fun _ h9 => h9) rfl dX11_flush_21 ?_
  obtain ⟨b16, ho16, hc16, hk16, hF⟩ := dr_some hF
  refine W_st (st' := [.ref (ad13 b16)]) (by rw [va_some ho16]) ?_
  refine va_get (D := D) (ci := 7) (v := .int (y10.2.1 b16 14)) (C := RX7) (T := TX7) (N := 17) hx hb hts (mus hf_X7) hown hK hP b16 (wld_o ct ad13 (xt G L12) y10.2 hc16 hk16 (by decide)) rfl 14 (by decide) (hts (.fieldLink RX11 155 "VideoSuite$Store" "outputs" "I") (mu mw_374)) (fun _ h9 => h9) rfl dX11_flush_24 ?_
  obtain ⟨x17, ex17, hF⟩ := ltt_some hF
  refine lv_topi (fun zx17 ezx17 => ?_)
  obtain rfl : x17 = zx17 := ex17.trans ezx17.symm
  obtain rfl := Option.some.inj hF
  have e1 : y.1 = L12 := by rw [hT]; exact List.append_nil _
  have e2 : y.2 = (y10.2, x17) := h2
  refine W.widen (k := y.1.length) (n := wt y.1) (Nat.le_of_eq (by rw [e1])) (Nat.le_of_eq (by rw [e1])) ?_
  exact W.iret (v := x17) hx hb hr (fun t ht hW => ⟨⟨_, ad13, rfl, ⟨by rw [e2], hag⟩, (by unfold kE; rw [e1, e2]; exact ⟨by rw [ht]; exact hP, va_K.moved hW.alike hK, hD⟩)⟩, hS.F ht⟩) hS.2.2 dX11_flush_27
set_option maxRecDepth 20000 in
theorem gX1_readHeader_J7_fill_53178 : GoodIn wuX1_readHeader (va_wsS RX1 91 yJ7_fill_53178 wuJ7_fill_53178) := gu_S mw_1325 mw_1125 mw_182 mw_1126
set_option maxRecDepth 20000 in
set_option maxRecDepth 20000 in
theorem gX1_readHeader_X5_number : GoodIn wuX1_readHeader (wsV RX1 179 RX5 yX5_number wuX5_number) := gu_V mw_1327 mw_1328 mw_1329 mw_169 mw_1330
set_option maxRecDepth 20000 in
set_option maxRecDepth 20000 in
theorem gX1_readHeader_X1_unsigned : GoodIn wuX1_readHeader (wsV RX1 186 RX1 yX1_unsigned wuX1_unsigned) := gu_V mw_1350 mw_1352 mw_34 mw_168 mw_1353
set_option maxRecDepth 20000 in
set_option maxRecDepth 20000 in
theorem gX1_readHeader_X5_fixed : GoodIn wuX1_readHeader (wsV RX1 183 RX5 yX5_fixed wuX5_fixed) := gu_V mw_1355 mw_1356 mw_1357 mw_169 mw_1358
set_option maxRecDepth 20000 in
set_option maxRecDepth 20000 in
theorem gX1_readHeader_X1_readOrder : GoodIn wuX1_readHeader (wsV RX1 221 RX1 yX1_readOrder wuX1_readOrder) := gu_V mw_1360 mw_1362 mw_35 mw_168 mw_1363
set_option maxRecDepth 20000 in
set_option maxRecDepth 20000 in
theorem gX1_readHeader_X1_readRules : GoodIn wuX1_readHeader (wsV RX1 231 RX1 yX1_readRules wuX1_readRules) := gu_V mw_1391 mw_1393 mw_41 mw_168 mw_1394
set_option maxRecDepth 20000 in
theorem gX1_readHeader_X1_readMarks : GoodIn wuX1_readHeader (wsV RX1 228 RX1 yX1_readMarks wuX1_readMarks) := gu_V mw_1387 mw_1389 mw_40 mw_168 mw_1390
set_option maxRecDepth 20000 in
set_option maxRecDepth 20000 in
theorem gX1_readHeader_X1_readLists : GoodIn wuX1_readHeader (wsV RX1 225 RX1 yX1_readLists wuX1_readLists) := gu_V mw_1368 mw_1370 mw_37 mw_168 mw_1371
set_option maxRecDepth 20000 in
theorem dX1_readHeader_0 : decode cX1_readHeader 0 = .ok (.aload_n 0, 1) := by decide +kernel
theorem dX1_readHeader_1 : decode cX1_readHeader 1 = .ok (.getfield 68, 3) := by decide +kernel
theorem dX1_readHeader_4 : decode cX1_readHeader 4 = .ok (.getfield 212, 3) := by decide +kernel
theorem dX1_readHeader_7 : decode cX1_readHeader 7 = .ok (.astore_n 3, 1) := by decide +kernel
theorem dX1_readHeader_8 : decode cX1_readHeader 8 = .ok (.aload_n 3, 1) := by decide +kernel
theorem dX1_readHeader_9 : decode cX1_readHeader 9 = .ok (.iconst 0, 1) := by decide +kernel
theorem dX1_readHeader_10 : decode cX1_readHeader 10 = .ok (.invokestatic 91, 3) := by decide +kernel
theorem dX1_readHeader_13 : decode cX1_readHeader 13 = .ok (.aload_n 3, 1) := by decide +kernel
theorem dX1_readHeader_14 : decode cX1_readHeader 14 = .ok (.bipush 18, 2) := by decide +kernel
theorem dX1_readHeader_16 : decode cX1_readHeader 16 = .ok (.iload_n 1, 1) := by decide +kernel
theorem dX1_readHeader_17 : decode cX1_readHeader 17 = .ok (.iastore, 1) := by decide +kernel
theorem dX1_readHeader_18 : decode cX1_readHeader 18 = .ok (.aload_n 3, 1) := by decide +kernel
theorem dX1_readHeader_19 : decode cX1_readHeader 19 = .ok (.bipush 11, 2) := by decide +kernel
theorem dX1_readHeader_21 : decode cX1_readHeader 21 = .ok (.iload_n 2, 1) := by decide +kernel
theorem dX1_readHeader_22 : decode cX1_readHeader 22 = .ok (.iastore, 1) := by decide +kernel
theorem dX1_readHeader_23 : decode cX1_readHeader 23 = .ok (.aload_n 3, 1) := by decide +kernel
theorem dX1_readHeader_24 : decode cX1_readHeader 24 = .ok (.iconst 0, 1) := by decide +kernel
theorem dX1_readHeader_25 : decode cX1_readHeader 25 = .ok (.aload_n 0, 1) := by decide +kernel
theorem dX1_readHeader_26 : decode cX1_readHeader 26 = .ok (.getfield 12, 3) := by decide +kernel
theorem dX1_readHeader_29 : decode cX1_readHeader 29 = .ok (.iconst 0, 1) := by decide +kernel
theorem dX1_readHeader_30 : decode cX1_readHeader 30 = .ok (.iconst 0, 1) := by decide +kernel
theorem dX1_readHeader_31 : decode cX1_readHeader 31 = .ok (.lconst 0, 1) := by decide +kernel
theorem dX1_readHeader_32 : decode cX1_readHeader 32 = .ok (.ldc2_w 215, 3) := by decide +kernel
theorem dX1_readHeader_35 : decode cX1_readHeader 35 = .ok (.invokevirtual 179, 3) := by decide +kernel
theorem dX1_readHeader_38 : decode cX1_readHeader 38 = .ok (.iastore, 1) := by decide +kernel
theorem dX1_readHeader_39 : decode cX1_readHeader 39 = .ok (.aload_n 0, 1) := by decide +kernel
theorem dX1_readHeader_40 : decode cX1_readHeader 40 = .ok (.getfield 12, 3) := by decide +kernel
theorem dX1_readHeader_43 : decode cX1_readHeader 43 = .ok (.getfield 194, 3) := by decide +kernel
theorem dX1_readHeader_46 : decode cX1_readHeader 46 = .ok (.istore 4, 2) := by decide +kernel
theorem dX1_readHeader_48 : decode cX1_readHeader 48 = .ok (.aload_n 3, 1) := by decide +kernel
theorem dX1_readHeader_49 : decode cX1_readHeader 49 = .ok (.iconst 1, 1) := by decide +kernel
theorem dX1_readHeader_50 : decode cX1_readHeader 50 = .ok (.aload_n 0, 1) := by decide +kernel
theorem dX1_readHeader_51 : decode cX1_readHeader 51 = .ok (.bipush 9, 2) := by decide +kernel
theorem dX1_readHeader_53 : decode cX1_readHeader 53 = .ok (.invokevirtual 186, 3) := by decide +kernel
theorem dX1_readHeader_56 : decode cX1_readHeader 56 = .ok (.iconst 5, 1) := by decide +kernel
theorem dX1_readHeader_57 : decode cX1_readHeader 57 = .ok (.irem, 1) := by decide +kernel
theorem dX1_readHeader_58 : decode cX1_readHeader 58 = .ok (.iastore, 1) := by decide +kernel
theorem dX1_readHeader_59 : decode cX1_readHeader 59 = .ok (.aload_n 3, 1) := by decide +kernel
theorem dX1_readHeader_60 : decode cX1_readHeader 60 = .ok (.iconst 1, 1) := by decide +kernel
theorem dX1_readHeader_61 : decode cX1_readHeader 61 = .ok (.iaload, 1) := by decide +kernel
theorem dX1_readHeader_62 : decode cX1_readHeader 62 = .ok (.iconst 2, 1) := by decide +kernel
theorem dX1_readHeader_63 : decode cX1_readHeader 63 = .ok (.if_icmp .gt 15, 3) := by decide +kernel
theorem dX1_readHeader_66 : decode cX1_readHeader 66 = .ok (.iload_n 1, 1) := by decide +kernel
theorem dX1_readHeader_67 : decode cX1_readHeader 67 = .ok (.iconst 5, 1) := by decide +kernel
theorem dX1_readHeader_68 : decode cX1_readHeader 68 = .ok (.if_icmp .ne 25, 3) := by decide +kernel
theorem dX1_readHeader_71 : decode cX1_readHeader 71 = .ok (.aload_n 3, 1) := by decide +kernel
theorem dX1_readHeader_72 : decode cX1_readHeader 72 = .ok (.iconst 1, 1) := by decide +kernel
theorem dX1_readHeader_73 : decode cX1_readHeader 73 = .ok (.iaload, 1) := by decide +kernel
theorem dX1_readHeader_74 : decode cX1_readHeader 74 = .ok (.iconst 2, 1) := by decide +kernel
theorem dX1_readHeader_75 : decode cX1_readHeader 75 = .ok (.if_icmp .eq 18, 3) := by decide +kernel
theorem dX1_readHeader_78 : decode cX1_readHeader 78 = .ok (.aload_n 0, 1) := by decide +kernel
theorem dX1_readHeader_79 : decode cX1_readHeader 79 = .ok (.getfield 12, 3) := by decide +kernel
theorem dX1_readHeader_82 : decode cX1_readHeader 82 = .ok (.iconst 2, 1) := by decide +kernel
theorem dX1_readHeader_83 : decode cX1_readHeader 83 = .ok (.aload_n 0, 1) := by decide +kernel
theorem dX1_readHeader_84 : decode cX1_readHeader 84 = .ok (.getfield 12, 3) := by decide +kernel
theorem dX1_readHeader_87 : decode cX1_readHeader 87 = .ok (.getfield 194, 3) := by decide +kernel
theorem dX1_readHeader_90 : decode cX1_readHeader 90 = .ok (.invokevirtual 197, 3) := by decide +kernel
theorem dX1_readHeader_93 : decode cX1_readHeader 93 = .ok (.aload_n 3, 1) := by decide +kernel
theorem dX1_readHeader_94 : decode cX1_readHeader 94 = .ok (.iconst 2, 1) := by decide +kernel
theorem dX1_readHeader_95 : decode cX1_readHeader 95 = .ok (.aload_n 0, 1) := by decide +kernel
theorem dX1_readHeader_96 : decode cX1_readHeader 96 = .ok (.iconst 3, 1) := by decide +kernel
theorem dX1_readHeader_97 : decode cX1_readHeader 97 = .ok (.invokevirtual 186, 3) := by decide +kernel
theorem dX1_readHeader_100 : decode cX1_readHeader 100 = .ok (.iastore, 1) := by decide +kernel
theorem dX1_readHeader_101 : decode cX1_readHeader 101 = .ok (.aload_n 0, 1) := by decide +kernel
theorem dX1_readHeader_102 : decode cX1_readHeader 102 = .ok (.getfield 51, 3) := by decide +kernel
theorem dX1_readHeader_105 : decode cX1_readHeader 105 = .ok (.aload_n 3, 1) := by decide +kernel
theorem dX1_readHeader_106 : decode cX1_readHeader 106 = .ok (.iconst 2, 1) := by decide +kernel
theorem dX1_readHeader_107 : decode cX1_readHeader 107 = .ok (.iaload, 1) := by decide +kernel
theorem dX1_readHeader_108 : decode cX1_readHeader 108 = .ok (.aaload, 1) := by decide +kernel
theorem dX1_readHeader_109 : decode cX1_readHeader 109 = .ok (.astore 5, 2) := by decide +kernel
theorem dX1_readHeader_111 : decode cX1_readHeader 111 = .ok (.aload 5, 2) := by decide +kernel
theorem dX1_readHeader_113 : decode cX1_readHeader 113 = .ok (.iconst 0, 1) := by decide +kernel
theorem dX1_readHeader_114 : decode cX1_readHeader 114 = .ok (.iaload, 1) := by decide +kernel
theorem dX1_readHeader_115 : decode cX1_readHeader 115 = .ok (.istore 6, 2) := by decide +kernel
theorem dX1_readHeader_117 : decode cX1_readHeader 117 = .ok (.aload 5, 2) := by decide +kernel
theorem dX1_readHeader_119 : decode cX1_readHeader 119 = .ok (.bipush 11, 2) := by decide +kernel
theorem dX1_readHeader_121 : decode cX1_readHeader 121 = .ok (.iaload, 1) := by decide +kernel
theorem dX1_readHeader_122 : decode cX1_readHeader 122 = .ok (.ifCond .eq 30, 3) := by decide +kernel
theorem dX1_readHeader_125 : decode cX1_readHeader 125 = .ok (.aload_n 0, 1) := by decide +kernel
theorem dX1_readHeader_126 : decode cX1_readHeader 126 = .ok (.getfield 48, 3) := by decide +kernel
theorem dX1_readHeader_129 : decode cX1_readHeader 129 = .ok (.iload 6, 2) := by decide +kernel
theorem dX1_readHeader_131 : decode cX1_readHeader 131 = .ok (.aaload, 1) := by decide +kernel
theorem dX1_readHeader_132 : decode cX1_readHeader 132 = .ok (.bipush 23, 2) := by decide +kernel
theorem dX1_readHeader_134 : decode cX1_readHeader 134 = .ok (.iaload, 1) := by decide +kernel
theorem dX1_readHeader_135 : decode cX1_readHeader 135 = .ok (.ifCond .eq 17, 3) := by decide +kernel
theorem dX1_readHeader_138 : decode cX1_readHeader 138 = .ok (.iload_n 1, 1) := by decide +kernel
theorem dX1_readHeader_139 : decode cX1_readHeader 139 = .ok (.iconst 1, 1) := by decide +kernel
theorem dX1_readHeader_140 : decode cX1_readHeader 140 = .ok (.if_icmp .ne 27, 3) := by decide +kernel
theorem dX1_readHeader_143 : decode cX1_readHeader 143 = .ok (.aload_n 0, 1) := by decide +kernel
theorem dX1_readHeader_144 : decode cX1_readHeader 144 = .ok (.getfield 58, 3) := by decide +kernel
theorem dX1_readHeader_147 : decode cX1_readHeader 147 = .ok (.iload 6, 2) := by decide +kernel
theorem dX1_readHeader_149 : decode cX1_readHeader 149 = .ok (.if_icmp .eq 18, 3) := by decide +kernel
theorem dX1_readHeader_152 : decode cX1_readHeader 152 = .ok (.aload_n 0, 1) := by decide +kernel
theorem dX1_readHeader_153 : decode cX1_readHeader 153 = .ok (.getfield 12, 3) := by decide +kernel
theorem dX1_readHeader_156 : decode cX1_readHeader 156 = .ok (.iconst 3, 1) := by decide +kernel
theorem dX1_readHeader_157 : decode cX1_readHeader 157 = .ok (.aload_n 0, 1) := by decide +kernel
theorem dX1_readHeader_158 : decode cX1_readHeader 158 = .ok (.getfield 12, 3) := by decide +kernel
theorem dX1_readHeader_161 : decode cX1_readHeader 161 = .ok (.getfield 194, 3) := by decide +kernel
theorem dX1_readHeader_164 : decode cX1_readHeader 164 = .ok (.invokevirtual 197, 3) := by decide +kernel
theorem dX1_readHeader_167 : decode cX1_readHeader 167 = .ok (.iload_n 1, 1) := by decide +kernel
theorem dX1_readHeader_168 : decode cX1_readHeader 168 = .ok (.iconst 1, 1) := by decide +kernel
theorem dX1_readHeader_169 : decode cX1_readHeader 169 = .ok (.if_icmp .ne 10, 3) := by decide +kernel
theorem dX1_readHeader_172 : decode cX1_readHeader 172 = .ok (.aload_n 0, 1) := by decide +kernel
theorem dX1_readHeader_173 : decode cX1_readHeader 173 = .ok (.getfield 54, 3) := by decide +kernel
theorem dX1_readHeader_176 : decode cX1_readHeader 176 = .ok (.goto 10, 3) := by decide +kernel
theorem dX1_readHeader_179 : decode cX1_readHeader 179 = .ok (.aload_n 0, 1) := by decide +kernel
theorem dX1_readHeader_180 : decode cX1_readHeader 180 = .ok (.getfield 48, 3) := by decide +kernel
theorem dX1_readHeader_183 : decode cX1_readHeader 183 = .ok (.iload 6, 2) := by decide +kernel
theorem dX1_readHeader_185 : decode cX1_readHeader 185 = .ok (.aaload, 1) := by decide +kernel
theorem dX1_readHeader_186 : decode cX1_readHeader 186 = .ok (.astore 7, 2) := by decide +kernel
theorem dX1_readHeader_188 : decode cX1_readHeader 188 = .ok (.aload_n 3, 1) := by decide +kernel
theorem dX1_readHeader_189 : decode cX1_readHeader 189 = .ok (.iconst 0, 1) := by decide +kernel
theorem dX1_readHeader_190 : decode cX1_readHeader 190 = .ok (.iaload, 1) := by decide +kernel
theorem dX1_readHeader_191 : decode cX1_readHeader 191 = .ok (.ifCond .lt 18, 3) := by decide +kernel
theorem dX1_readHeader_194 : decode cX1_readHeader 194 = .ok (.aload_n 3, 1) := by decide +kernel
theorem dX1_readHeader_195 : decode cX1_readHeader 195 = .ok (.iconst 0, 1) := by decide +kernel
theorem dX1_readHeader_196 : decode cX1_readHeader 196 = .ok (.iaload, 1) := by decide +kernel
theorem dX1_readHeader_197 : decode cX1_readHeader 197 = .ok (.aload 7, 2) := by decide +kernel
theorem dX1_readHeader_199 : decode cX1_readHeader 199 = .ok (.iconst 0, 1) := by decide +kernel
theorem dX1_readHeader_200 : decode cX1_readHeader 200 = .ok (.iaload, 1) := by decide +kernel
theorem dX1_readHeader_201 : decode cX1_readHeader 201 = .ok (.aload 7, 2) := by decide +kernel
theorem dX1_readHeader_203 : decode cX1_readHeader 203 = .ok (.iconst 1, 1) := by decide +kernel
theorem dX1_readHeader_204 : decode cX1_readHeader 204 = .ok (.iaload, 1) := by decide +kernel
theorem dX1_readHeader_205 : decode cX1_readHeader 205 = .ok (.imul, 1) := by decide +kernel
theorem dX1_readHeader_206 : decode cX1_readHeader 206 = .ok (.if_icmp .lt 13, 3) := by decide +kernel
theorem dX1_readHeader_209 : decode cX1_readHeader 209 = .ok (.aload_n 0, 1) := by decide +kernel
theorem dX1_readHeader_210 : decode cX1_readHeader 210 = .ok (.getfield 12, 3) := by decide +kernel
theorem dX1_readHeader_213 : decode cX1_readHeader 213 = .ok (.iconst 2, 1) := by decide +kernel
theorem dX1_readHeader_214 : decode cX1_readHeader 214 = .ok (.iload 4, 2) := by decide +kernel
theorem dX1_readHeader_216 : decode cX1_readHeader 216 = .ok (.invokevirtual 197, 3) := by decide +kernel
theorem dX1_readHeader_219 : decode cX1_readHeader 219 = .ok (.aload_n 3, 1) := by decide +kernel
theorem dX1_readHeader_220 : decode cX1_readHeader 220 = .ok (.bipush 21, 2) := by decide +kernel
theorem dX1_readHeader_222 : decode cX1_readHeader 222 = .ok (.aload_n 0, 1) := by decide +kernel
theorem dX1_readHeader_223 : decode cX1_readHeader 223 = .ok (.getfield 12, 3) := by decide +kernel
theorem dX1_readHeader_226 : decode cX1_readHeader 226 = .ok (.getfield 217, 3) := by decide +kernel
theorem dX1_readHeader_229 : decode cX1_readHeader 229 = .ok (.iastore, 1) := by decide +kernel
theorem dX1_readHeader_230 : decode cX1_readHeader 230 = .ok (.aload_n 3, 1) := by decide +kernel
theorem dX1_readHeader_231 : decode cX1_readHeader 231 = .ok (.iconst 3, 1) := by decide +kernel
theorem dX1_readHeader_232 : decode cX1_readHeader 232 = .ok (.aload_n 0, 1) := by decide +kernel
theorem dX1_readHeader_233 : decode cX1_readHeader 233 = .ok (.getfield 12, 3) := by decide +kernel
theorem dX1_readHeader_236 : decode cX1_readHeader 236 = .ok (.iconst 0, 1) := by decide +kernel
theorem dX1_readHeader_237 : decode cX1_readHeader 237 = .ok (.aload 7, 2) := by decide +kernel
theorem dX1_readHeader_239 : decode cX1_readHeader 239 = .ok (.iconst 2, 1) := by decide +kernel
theorem dX1_readHeader_240 : decode cX1_readHeader 240 = .ok (.iaload, 1) := by decide +kernel
theorem dX1_readHeader_241 : decode cX1_readHeader 241 = .ok (.invokevirtual 183, 3) := by decide +kernel
theorem dX1_readHeader_244 : decode cX1_readHeader 244 = .ok (.iastore, 1) := by decide +kernel
theorem dX1_readHeader_245 : decode cX1_readHeader 245 = .ok (.iload_n 1, 1) := by decide +kernel
theorem dX1_readHeader_246 : decode cX1_readHeader 246 = .ok (.iconst 5, 1) := by decide +kernel
theorem dX1_readHeader_247 : decode cX1_readHeader 247 = .ok (.if_icmp .ne 33, 3) := by decide +kernel
theorem dX1_readHeader_250 : decode cX1_readHeader 250 = .ok (.aload_n 3, 1) := by decide +kernel
theorem dX1_readHeader_251 : decode cX1_readHeader 251 = .ok (.iconst 3, 1) := by decide +kernel
theorem dX1_readHeader_252 : decode cX1_readHeader 252 = .ok (.iaload, 1) := by decide +kernel
theorem dX1_readHeader_253 : decode cX1_readHeader 253 = .ok (.ifCond .eq 18, 3) := by decide +kernel
theorem dX1_readHeader_256 : decode cX1_readHeader 256 = .ok (.aload_n 0, 1) := by decide +kernel
theorem dX1_readHeader_257 : decode cX1_readHeader 257 = .ok (.getfield 12, 3) := by decide +kernel
theorem dX1_readHeader_260 : decode cX1_readHeader 260 = .ok (.iconst 2, 1) := by decide +kernel
theorem dX1_readHeader_261 : decode cX1_readHeader 261 = .ok (.aload_n 0, 1) := by decide +kernel
theorem dX1_readHeader_262 : decode cX1_readHeader 262 = .ok (.getfield 12, 3) := by decide +kernel
theorem dX1_readHeader_265 : decode cX1_readHeader 265 = .ok (.getfield 194, 3) := by decide +kernel
theorem dX1_readHeader_268 : decode cX1_readHeader 268 = .ok (.invokevirtual 197, 3) := by decide +kernel
theorem dX1_readHeader_271 : decode cX1_readHeader 271 = .ok (.aload_n 3, 1) := by decide +kernel
theorem dX1_readHeader_272 : decode cX1_readHeader 272 = .ok (.iconst 4, 1) := by decide +kernel
theorem dX1_readHeader_273 : decode cX1_readHeader 273 = .ok (.aload_n 0, 1) := by decide +kernel
theorem dX1_readHeader_274 : decode cX1_readHeader 274 = .ok (.ldc 220, 2) := by decide +kernel
theorem dX1_readHeader_276 : decode cX1_readHeader 276 = .ok (.invokevirtual 186, 3) := by decide +kernel
theorem dX1_readHeader_279 : decode cX1_readHeader 279 = .ok (.iastore, 1) := by decide +kernel
theorem dX1_readHeader_280 : decode cX1_readHeader 280 = .ok (.aload_n 0, 1) := by decide +kernel
theorem dX1_readHeader_281 : decode cX1_readHeader 281 = .ok (.aload 7, 2) := by decide +kernel
theorem dX1_readHeader_283 : decode cX1_readHeader 283 = .ok (.aload 5, 2) := by decide +kernel
theorem dX1_readHeader_285 : decode cX1_readHeader 285 = .ok (.invokevirtual 221, 3) := by decide +kernel
theorem dX1_readHeader_288 : decode cX1_readHeader 288 = .ok (.aload_n 3, 1) := by decide +kernel
theorem dX1_readHeader_289 : decode cX1_readHeader 289 = .ok (.iconst 1, 1) := by decide +kernel
theorem dX1_readHeader_290 : decode cX1_readHeader 290 = .ok (.iaload, 1) := by decide +kernel
theorem dX1_readHeader_291 : decode cX1_readHeader 291 = .ok (.iconst 2, 1) := by decide +kernel
theorem dX1_readHeader_292 : decode cX1_readHeader 292 = .ok (.if_icmp .eq 11, 3) := by decide +kernel
theorem dX1_readHeader_295 : decode cX1_readHeader 295 = .ok (.aload_n 0, 1) := by decide +kernel
theorem dX1_readHeader_296 : decode cX1_readHeader 296 = .ok (.aload 7, 2) := by decide +kernel
theorem dX1_readHeader_298 : decode cX1_readHeader 298 = .ok (.aload 5, 2) := by decide +kernel
theorem dX1_readHeader_300 : decode cX1_readHeader 300 = .ok (.invokevirtual 225, 3) := by decide +kernel
theorem dX1_readHeader_303 : decode cX1_readHeader 303 = .ok (.iload_n 2, 1) := by decide +kernel
theorem dX1_readHeader_304 : decode cX1_readHeader 304 = .ok (.ifCond .eq 8, 3) := by decide +kernel
theorem dX1_readHeader_307 : decode cX1_readHeader 307 = .ok (.aload_n 0, 1) := by decide +kernel
theorem dX1_readHeader_308 : decode cX1_readHeader 308 = .ok (.iload_n 1, 1) := by decide +kernel
theorem dX1_readHeader_309 : decode cX1_readHeader 309 = .ok (.invokevirtual 228, 3) := by decide +kernel
theorem dX1_readHeader_312 : decode cX1_readHeader 312 = .ok (.aload_n 0, 1) := by decide +kernel
theorem dX1_readHeader_313 : decode cX1_readHeader 313 = .ok (.aload 5, 2) := by decide +kernel
theorem dX1_readHeader_315 : decode cX1_readHeader 315 = .ok (.invokevirtual 231, 3) := by decide +kernel
theorem dX1_readHeader_318 : decode cX1_readHeader 318 = .ok (.return_, 1) := by decide +kernel
def FX1_readHeader (G : GG) (M : DD) (a : Nat) (p0 : Int32) (p1 : Int32) : Option (DD) :=
  dr G 3 ((M.2 a 10)) fun b2 =>
  bnd (FJ7_fill_53178 G M ((M.2 b2 0)) ((0 : Int32))) fun y3 =>
  dr G 13 ((M.2 b2 0)) fun b4 =>
  chk (¬ (((18 : Int32)) < 0 ∨ G.2.2 b4 ≤ ((18 : Int32)).toNatClampNeg)) <|
  ltt (uI y3 b4 ((18 : Int32)).toNatClampNeg p0) fun M5 =>
  chk (¬ (((11 : Int32)) < 0 ∨ G.2.2 b4 ≤ ((11 : Int32)).toNatClampNeg)) <|
  ltt (uI M5 b4 ((11 : Int32)).toNatClampNeg p1) fun M6 =>
  dr G 5 ((M6.2 a 0)) fun b7 =>
  bnd (FX5_number G M6 b7 ((0 : Int32)) ((0 : Int32)) ((0 : Int64)) ((4294967295 : Int64))) fun y8 =>
  chk (¬ (((0 : Int32)) < 0 ∨ G.2.2 b4 ≤ ((0 : Int32)).toNatClampNeg)) <|
  ltt (uI y8.1 b4 ((0 : Int32)).toNatClampNeg y8.2) fun M9 =>
  dr G 5 ((M9.2 a 0)) fun b10 =>
  ltt (M9.1 b10 4) fun x11 =>
  bnd (FX1_unsigned G M9 a ((9 : Int32))) fun y12 =>
  ltt (y12.2 - y12.2 / ((5 : Int32)) * ((5 : Int32))) fun x13 =>
  chk (¬ (((1 : Int32)) < 0 ∨ G.2.2 b4 ≤ ((1 : Int32)).toNatClampNeg)) <|
  ltt (uI y12.1 b4 ((1 : Int32)).toNatClampNeg x13) fun M14 =>
  chk (¬ (((1 : Int32)) < 0 ∨ G.2.2 b4 ≤ ((1 : Int32)).toNatClampNeg)) <|
  ltt (M14.1 b4 ((1 : Int32)).toNatClampNeg) fun x15 =>
  bnd (if ((2 : Int32)) < x15 then (dr G 5 ((M14.2 a 0)) fun b88 =>
  ltt (M14.1 b88 4) fun x89 =>
  none) else
  (some (M14))) fun (y16 : DD) =>
  bnd (if p0 = ((5 : Int32)) then (chk (¬ (((1 : Int32)) < 0 ∨ G.2.2 b4 ≤ ((1 : Int32)).toNatClampNeg)) <|
  ltt (y16.1 b4 ((1 : Int32)).toNatClampNeg) fun x82 =>
  bnd (if x82 = ((2 : Int32)) then (some (y16)) else
  (dr G 5 ((y16.2 a 0)) fun b85 =>
  ltt (y16.1 b85 4) fun x86 =>
  none)) fun (y83 : DD) =>
  some (y83)) else
  (some (y16))) fun (y17 : DD) =>
  bnd (FX1_unsigned G y17 a ((3 : Int32))) fun y18 =>
  chk (¬ (((2 : Int32)) < 0 ∨ G.2.2 b4 ≤ ((2 : Int32)).toNatClampNeg)) <|
  ltt (uI y18.1 b4 ((2 : Int32)).toNatClampNeg y18.2) fun M19 =>
  chk (¬ (((2 : Int32)) < 0 ∨ G.2.2 b4 ≤ ((2 : Int32)).toNatClampNeg)) <|
  ltt (M19.1 b4 ((2 : Int32)).toNatClampNeg) fun x20 =>
  dr G 15 ((M19.2 a 6)) fun b21 =>
  chk (¬ (x20 < 0 ∨ G.2.2 b21 ≤ x20.toNatClampNeg)) <|
  dr G 13 ((M19.2 b21 x20.toNatClampNeg)) fun b22 =>
  chk (¬ (((0 : Int32)) < 0 ∨ G.2.2 b22 ≤ ((0 : Int32)).toNatClampNeg)) <|
  ltt (M19.1 b22 ((0 : Int32)).toNatClampNeg) fun x23 =>
  chk (¬ (((11 : Int32)) < 0 ∨ G.2.2 b22 ≤ ((11 : Int32)).toNatClampNeg)) <|
  ltt (M19.1 b22 ((11 : Int32)).toNatClampNeg) fun x24 =>
  bnd (if x24 = ((0 : Int32)) then (dr G 5 ((M19.2 a 0)) fun b79 =>
  ltt (M19.1 b79 4) fun x80 =>
  none) else
  (some (M19))) fun (y25 : DD) =>
  dr G 15 ((y25.2 a 5)) fun b26 =>
  chk (¬ (x23 < 0 ∨ G.2.2 b26 ≤ x23.toNatClampNeg)) <|
  dr G 13 ((y25.2 b26 x23.toNatClampNeg)) fun b27 =>
  chk (¬ (((23 : Int32)) < 0 ∨ G.2.2 b27 ≤ ((23 : Int32)).toNatClampNeg)) <|
  ltt (y25.1 b27 ((23 : Int32)).toNatClampNeg) fun x28 =>
  bnd (if x28 = ((0 : Int32)) then (dr G 5 ((y25.2 a 0)) fun b76 =>
  ltt (y25.1 b76 4) fun x77 =>
  none) else
  (some (y25))) fun (y29 : DD) =>
  bnd (if p0 = ((1 : Int32)) then (ltt (y29.1 a 8) fun x70 =>
  bnd (if x70 = x23 then (some (y29)) else
  (dr G 5 ((y29.2 a 0)) fun b73 =>
  ltt (y29.1 b73 4) fun x74 =>
  none)) fun (y71 : DD) =>
  some (y71)) else
  (some (y29))) fun (y30 : DD) =>
  bnd (if p0 = ((1 : Int32)) then (some ((y30.2 a 7))) else
  (dr G 15 ((y30.2 a 5)) fun b68 =>
  chk (¬ (x23 < 0 ∨ G.2.2 b68 ≤ x23.toNatClampNeg)) <|
  some ((y30.2 b68 x23.toNatClampNeg)))) fun (y31 : Option Nat) =>
  chk (¬ (((0 : Int32)) < 0 ∨ G.2.2 b4 ≤ ((0 : Int32)).toNatClampNeg)) <|
  ltt (y30.1 b4 ((0 : Int32)).toNatClampNeg) fun x32 =>
  bnd (if x32 < ((0 : Int32)) then (none) else
  (some (y30))) fun (y33 : DD) =>
  chk (¬ (((0 : Int32)) < 0 ∨ G.2.2 b4 ≤ ((0 : Int32)).toNatClampNeg)) <|
  ltt (y33.1 b4 ((0 : Int32)).toNatClampNeg) fun x34 =>
  dr G 13 y31 fun b35 =>
  chk (¬ (((0 : Int32)) < 0 ∨ G.2.2 b35 ≤ ((0 : Int32)).toNatClampNeg)) <|
  ltt (y33.1 b35 ((0 : Int32)).toNatClampNeg) fun x36 =>
  chk (¬ (((1 : Int32)) < 0 ∨ G.2.2 b35 ≤ ((1 : Int32)).toNatClampNeg)) <|
  ltt (y33.1 b35 ((1 : Int32)).toNatClampNeg) fun x37 =>
  ltt ((x36 * x37)) fun x38 =>
  bnd (if x34 < x38 then (some (y33)) else
  (none)) fun (y39 : DD) =>
  dr G 5 ((y39.2 a 0)) fun b40 =>
  ltt (y39.1 b40 2) fun x41 =>
  chk (¬ (((21 : Int32)) < 0 ∨ G.2.2 b4 ≤ ((21 : Int32)).toNatClampNeg)) <|
  ltt (uI y39 b4 ((21 : Int32)).toNatClampNeg x41) fun M42 =>
  chk (¬ (((2 : Int32)) < 0 ∨ G.2.2 b35 ≤ ((2 : Int32)).toNatClampNeg)) <|
  ltt (M42.1 b35 ((2 : Int32)).toNatClampNeg) fun x43 =>
  dr G 5 ((M42.2 a 0)) fun b44 =>
  bnd (FX5_fixed G M42 b44 ((0 : Int32)) x43) fun y45 =>
  chk (¬ (((3 : Int32)) < 0 ∨ G.2.2 b4 ≤ ((3 : Int32)).toNatClampNeg)) <|
  ltt (uI y45.1 b4 ((3 : Int32)).toNatClampNeg y45.2) fun M46 =>
  bnd (if p0 = ((5 : Int32)) then (chk (¬ (((3 : Int32)) < 0 ∨ G.2.2 b4 ≤ ((3 : Int32)).toNatClampNeg)) <|
  ltt (M46.1 b4 ((3 : Int32)).toNatClampNeg) fun x58 =>
  bnd (if x58 = ((0 : Int32)) then (some (M46)) else
  (dr G 5 ((M46.2 a 0)) fun b63 =>
  ltt (M46.1 b63 4) fun x64 =>
  none)) fun (y59 : DD) =>
  bnd (FX1_unsigned G y59 a ((65535 : Int32))) fun y60 =>
  chk (¬ (((4 : Int32)) < 0 ∨ G.2.2 b4 ≤ ((4 : Int32)).toNatClampNeg)) <|
  ltt (uI y60.1 b4 ((4 : Int32)).toNatClampNeg y60.2) fun M61 =>
  some (M61)) else
  (some (M46))) fun (y47 : DD) =>
  bnd (FX1_readOrder G y47 a y31 ((M19.2 b21 x20.toNatClampNeg))) fun y48 =>
  chk (¬ (((1 : Int32)) < 0 ∨ G.2.2 b4 ≤ ((1 : Int32)).toNatClampNeg)) <|
  ltt (y48.1 b4 ((1 : Int32)).toNatClampNeg) fun x49 =>
  bnd (if x49 = ((2 : Int32)) then (some (y48)) else
  (bnd (FX1_readLists G y48 a y31 ((M19.2 b21 x20.toNatClampNeg))) fun y56 =>
  some (y56))) fun (y50 : DD) =>
  bnd (if p1 = ((0 : Int32)) then (some (y50)) else
  (bnd (FX1_readMarks G y50 a p0) fun y54 =>
  some (y54))) fun (y51 : DD) =>
  bnd (FX1_readRules G y51 a ((M19.2 b21 x20.toNatClampNeg))) fun y52 =>
  some y52
set_option maxHeartbeats 4000000 in
set_option maxRecDepth 100000 in
theorem kX1_readHeader (l : Launch) (D : va_G) (ct : CT) (ad : Nat → Nat) (Z : Nat → Nat) (G : GG) (M : DD) (sz : Nat) (a : Nat) (p0 : Int32) (p1 : Int32) (y : DD) (hc : a < G.1) (hk : G.2.1 a = 1) (hF : FX1_readHeader G M a p0 p1 = some y) : Met l yX1_readHeader wuX1_readHeader ({ frames := 5, cells := 0, slots := 0, locals := 131 }) (va_Pc [.ref (ad a), .int p0, .int p1] (kB D ct ad Z G M sz)) (va_Qv (fun (_ : Unit) => True) (fun _ t => kE D ct ad G (wA ad G sz) y t) (wA ad G sz)) 0 0 (wA ad G sz) := by
  refine Met.ofW (cc := cX1_readHeader) (maxL := 8) (ret := none) (by decide) rfl ?_
  intro p e s m args below meth c s₁ B hml hv
  obtain ⟨rfl, hsz, hP, hK, hD0, hZ, hN⟩ := hv
  have hx := B.exec
  have hb := B.bytes
  have hr := B.returns
  have hts := atoms_spec (ws := wuX1_readHeader) B.pre
  have hown : s.vm.findClass RX1 = some m.cls := findClass_of_methodNamed B.named
  have hlocks := B.notSynchronized
  subst hsz
  have hD := wD_self (sz := s.heap.size) hD0
  have hA9 : ∀ q, s.heap.size ≤ q → wA ad G s.heap.size q := fun q h => Or.inr h
  generalize hAe : wA ad G s.heap.size = A at hD hA9 hZ ⊢
  have hS : va_S A s.heap s.heap [] := va_S.rf
  have hl := lv_entry ([.ref (ad a), .int p0, .int p1]) (n := 8) (Nat.le_of_ble_eq_true rfl)
  rw [lg_entry_eq]
  generalize (lg_sl ([.ref (ad a), .int p0, .int p1]) ++ List.replicate (8 - (lg_sl ([.ref (ad a), .int p0, .int p1])).length) Slot.unset).toArray = ls at hl ⊢
  have hl : lv_has ls 8 [(0, .ref (ad a)), (1, .int p0), (2, .int p1)] := hl
  unfold FX1_readHeader at hF
  refine lv_aload_n hx hb dX1_readHeader_0 rfl (lv_at hl 0 rfl) ?_
  refine va_get (D := D) (ci := 1) (v := va_re ad (M.2 a 10)) (C := RX1) (T := TX1) (N := 22) hx hb hts (mus hf_X1) hown hK hP a (wld_o ct ad G M hc hk (by decide)) rfl 10 (by decide) (hts (.fieldLink RX1 68 "VideoSuite$Decoder" "head" "LVideoSuite$Header;") (mu mw_652)) (fun _ h9 => h9) rfl dX1_readHeader_1 ?_
  obtain ⟨b2, ho2, hc2, hk2, hF⟩ := dr_some hF
  refine W_st (st' := [.ref (ad b2)]) (by rw [va_some ho2]) ?_
  refine va_get (D := D) (ci := 3) (v := va_re ad (M.2 b2 0)) (C := RX3) (T := TX3) (N := 4) hx hb hts (mus hf_X3) hown hK hP b2 (wld_o ct ad G M hc2 hk2 (by decide)) rfl 0 (by decide) (hts (.fieldLink RX1 212 "VideoSuite$Header" "v" "[I") (mu mw_618)) (fun _ h9 => h9) rfl dX1_readHeader_4 ?_
  refine lv_astoreq_n (lv' := [(3, va_re ad (M.2 b2 0)), (0, .ref (ad a)), (1, .int p0), (2, .int p1)]) hx hb dX1_readHeader_7 rfl hl (by decide) rfl (fun ls hl => ?_)
  refine lv_aloadq_n hx hb dX1_readHeader_8 rfl (lv_at hl 0 rfl) ?_
  refine lv_iconst (v := (0 : Int32)) hx hb dX1_readHeader_9 (by decide) ?_
  obtain ⟨y3, hy3, hF⟩ := bnd_some hF
  have hf9 := wA_in hD hA9 hS
  refine va_callv (va_runS (As := [va_re ad (M.2 b2 0), .int (0 : Int32)]) (rest := []) ⟨hx, hb, hml, hown, hts⟩ (kJ7_fill_53178 l D ct ad Z G M s.heap.size ((M.2 b2 0)) ((0 : Int32)) y3 hy3) (va_cwS 2 hts gX1_readHeader_J7_fill_53178 rfl rfl rfl (by decide +kernel) ⟨Nat.le_of_ble_eq_true rfl, Nat.le_of_ble_eq_true rfl⟩) ⟨fun a U g mk q => by obtain ⟨q0, q1, qP, qK, qD, qZ, qN⟩ := q; exact ⟨q0, q1, qP, va_K.moved (u := U) (U := U.calling g mk a) (Vm.Alike.refl U.vm) qK, qD, sF.moved (u := U) (U := U.calling g mk a) (Vm.Alike.refl U.vm) qZ, nF.same rfl qN⟩, fun U hU hW => ⟨rfl, by rw [hU], by rw [hU]; exact hP, va_K.moved hW.alike hK, hD.weaken (fun _ _ _ _ => trivial), by rw [hU]; exact ((hZ.kept hS.2.1).narrow hf9).moved hW.alike, hN.warm hW⟩⟩ rfl rfl hl.1 rfl (lv_room (Nat.le_of_ble_eq_true rfl)) dX1_readHeader_10 ⟨(Nat.zero_le _), (Nat.zero_le _)⟩) hS (fun q _ h => hf9 q h) hf9 (fun u t H locs ht hvm hw hB hz1 hk1 hS => ?_)
  obtain ⟨hP, hK9, hD9⟩ := hB
  rw [ht] at hP
  have hD := hD9.weaken (fun _ q _ h => hf9 q.1 h)
  refine lv_aloadq_n hx hb dX1_readHeader_13 rfl (lv_at hl 0 rfl) ?_
  refine lv_bipush (v := (18 : Int32)) hx hb dX1_readHeader_14 (by decide) ?_
  refine lv_iload_n hx hb dX1_readHeader_16 rfl (lv_at hl 2 rfl) ?_
  obtain ⟨b4, ho4, hc4, hk4, hF⟩ := dr_some hF
  refine W_st (st' := [.int p0, .int (18 : Int32), .ref (ad b4)]) (by rw [va_some ho4]) ?_
  obtain ⟨hvc, hF⟩ := chk_some hF
  refine va_iast hx hb hK hP hD hS b4 1 (wld_i ct ad G y3 hc4 hk4) rfl hvc dX1_readHeader_17 (fun H locs hP hD hS => ?_)
  obtain ⟨M5, eM5, hF⟩ := ltt_some hF
  rw [set_i ct ad G y3 hc4 hk4, ← eM5] at hP hD
  refine lv_aloadq_n hx hb dX1_readHeader_18 rfl (lv_at hl 0 rfl) ?_
  refine lv_bipush (v := (11 : Int32)) hx hb dX1_readHeader_19 (by decide) ?_
  refine lv_iload_n hx hb dX1_readHeader_21 rfl (lv_at hl 3 rfl) ?_
  refine W_st (st' := [.int p1, .int (11 : Int32), .ref (ad b4)]) (by rw [va_some ho4]) ?_
  obtain ⟨hvc, hF⟩ := chk_some hF
  refine va_iast hx hb hK hP hD hS b4 1 (wld_i ct ad G M5 hc4 hk4) rfl hvc dX1_readHeader_22 (fun H locs hP hD hS => ?_)
  obtain ⟨M6, eM6, hF⟩ := ltt_some hF
  rw [set_i ct ad G M5 hc4 hk4, ← eM6] at hP hD
  refine lv_aloadq_n hx hb dX1_readHeader_23 rfl (lv_at hl 0 rfl) ?_
  refine lv_iconst (v := (0 : Int32)) hx hb dX1_readHeader_24 (by decide) ?_
  refine lv_aload_n hx hb dX1_readHeader_25 rfl (lv_at hl 1 rfl) ?_
  refine va_get (D := D) (ci := 1) (v := va_re ad (M6.2 a 0)) (C := RX1) (T := TX1) (N := 22) hx hb hts (mus hf_X1) hown hK hP a (wld_o ct ad G M6 hc hk (by decide)) rfl 0 (by decide) (hts (.fieldLink RX1 12 "VideoSuite$Decoder" "reader" "LVideoSuite$Reader;") (mu mw_640)) (fun _ h9 => h9) rfl dX1_readHeader_26 ?_
  refine lv_iconst (v := (0 : Int32)) hx hb dX1_readHeader_29 (by decide) ?_
  refine lv_iconst (v := (0 : Int32)) hx hb dX1_readHeader_30 (by decide) ?_
  refine lv_lconst (v := (0 : Int64)) hx hb dX1_readHeader_31 rfl ?_
  refine lv_ldc2 (v := (4294967295 : Int64)) hx hb hown (hts (.constantLong RX1 215 (4294967295 : Int64)) (mu mw_1326)) dX1_readHeader_32 ?_
  obtain ⟨b7, ho7, hc7, hk7, hF⟩ := dr_some hF
  refine W_st (st' := [.long (4294967295 : Int64), .long (0 : Int64), .int (0 : Int32), .int (0 : Int32), .ref (ad b7), .int (0 : Int32), va_re ad (M.2 b2 0)]) (by rw [va_some ho7]) ?_
  obtain ⟨y8, hy8, hF⟩ := bnd_some hF
  have hf9 := wA_in hD hA9 hS
  refine va_calli (va_runV (As := [.int (0 : Int32), .int (0 : Int32), .long (0 : Int64), .long (4294967295 : Int64)]) (rest := [.int (0 : Int32), va_re ad (M.2 b2 0)]) ⟨hx, hb, hml, hown, hts⟩ (kX5_number l D ct ad Z G M6 H.size b7 ((0 : Int32)) ((0 : Int32)) ((0 : Int64)) ((4294967295 : Int64)) y8 hc7 hk7 hy8) (cwV 4 hts gX1_readHeader_X5_number rfl rfl rfl (by decide +kernel) ⟨Nat.le_of_ble_eq_true rfl, Nat.le_of_ble_eq_true rfl⟩) ⟨fun a U g mk q => by obtain ⟨q0, q1, qP, qK, qD, qZ, qN⟩ := q; exact ⟨q0, q1, qP, va_K.moved (u := U) (U := U.calling g mk a) (Vm.Alike.refl U.vm) qK, qD, sF.moved (u := U) (U := U.calling g mk a) (Vm.Alike.refl U.vm) qZ, nF.same rfl qN⟩, va_recv hK hP (ci := 5) (q0 := b7) rfl (wld_o ct ad G M6 hc7 hk7 (by decide)), fun U hU hW => ⟨rfl, by rw [hU], by rw [hU]; exact hP, va_K.moved hW.alike hK, hD.weaken (fun _ _ _ _ => trivial), by rw [hU]; exact ((hZ.kept hS.2.1).narrow hf9).moved hW.alike, hN.warm hW⟩⟩ rfl rfl hl.1 rfl (lv_room (by simp only [List.map, va_re_cat]; exact Nat.le_of_ble_eq_true rfl)) dX1_readHeader_35 ⟨(Nat.zero_le _), (Nat.zero_le _)⟩) hS (fun q _ h => hf9 q h) hf9 (fun r u t H locs ht hvm hw hB hz1 hk1 hS => ?_)
  obtain ⟨hP, hK9, hD9⟩ := hB
  rw [ht] at hP
  try dsimp only at hw
  subst hw
  have hD := hD9.weaken (fun _ q _ h => hf9 q.1 h)
  refine W_st (st' := [.int y8.2, .int (0 : Int32), .ref (ad b4)]) (by rw [va_some ho4]) ?_
  obtain ⟨hvc, hF⟩ := chk_some hF
  refine va_iast hx hb hK hP hD hS b4 1 (wld_i ct ad G y8.1 hc4 hk4) rfl hvc dX1_readHeader_38 (fun H locs hP hD hS => ?_)
  obtain ⟨M9, eM9, hF⟩ := ltt_some hF
  rw [set_i ct ad G y8.1 hc4 hk4, ← eM9] at hP hD
  refine lv_aload_n hx hb dX1_readHeader_39 rfl (lv_at hl 1 rfl) ?_
  refine va_get (D := D) (ci := 1) (v := va_re ad (M9.2 a 0)) (C := RX1) (T := TX1) (N := 22) hx hb hts (mus hf_X1) hown hK hP a (wld_o ct ad G M9 hc hk (by decide)) rfl 0 (by decide) (hts (.fieldLink RX1 12 "VideoSuite$Decoder" "reader" "LVideoSuite$Reader;") (mu mw_640)) (fun _ h9 => h9) rfl dX1_readHeader_40 ?_
  obtain ⟨b10, ho10, hc10, hk10, hF⟩ := dr_some hF
  refine W_st (st' := [.ref (ad b10)]) (by rw [va_some ho10]) ?_
  refine va_get (D := D) (ci := 5) (v := .int (M9.1 b10 4)) (C := RX5) (T := TX5) (N := 17) hx hb hts (mus hf_X5) hown hK hP b10 (wld_o ct ad G M9 hc10 hk10 (by decide)) rfl 4 (by decide) (hts (.fieldLink RX1 194 "VideoSuite$Reader" "begin" "I") (mu mw_293)) (fun _ h9 => h9) rfl dX1_readHeader_43 ?_
  obtain ⟨x11, ex11, hF⟩ := ltt_some hF
  refine lv_topi (fun zx11 ezx11 => ?_)
  obtain rfl : x11 = zx11 := ex11.trans ezx11.symm
  refine lv_istore (lv' := [(4, .int x11), (3, va_re ad (M.2 b2 0)), (0, .ref (ad a)), (1, .int p0), (2, .int p1)]) hx hb dX1_readHeader_46 hl (by decide) (by generalize ((M.2 b2 0)) = o9; cases o9 <;> rfl) (fun ls hl => ?_)
  refine lv_aloadq_n hx hb dX1_readHeader_48 rfl (lv_at hl 1 rfl) ?_
  refine lv_iconst (v := (1 : Int32)) hx hb dX1_readHeader_49 (by decide) ?_
  refine lv_aload_n hx hb dX1_readHeader_50 rfl (lv_at hl 2 rfl) ?_
  refine lv_bipush (v := (9 : Int32)) hx hb dX1_readHeader_51 (by decide) ?_
  obtain ⟨y12, hy12, hF⟩ := bnd_some hF
  have hf9 := wA_in hD hA9 hS
  refine va_calli (va_runV (As := [.int (9 : Int32)]) (rest := [.int (1 : Int32), va_re ad (M.2 b2 0)]) ⟨hx, hb, hml, hown, hts⟩ (kX1_unsigned l D ct ad Z G M9 H.size a ((9 : Int32)) y12 hc hk hy12) (cwV 1 hts gX1_readHeader_X1_unsigned rfl rfl rfl (by decide +kernel) ⟨Nat.le_of_ble_eq_true rfl, Nat.le_of_ble_eq_true rfl⟩) ⟨fun a U g mk q => by obtain ⟨q0, q1, qP, qK, qD, qZ, qN⟩ := q; exact ⟨q0, q1, qP, va_K.moved (u := U) (U := U.calling g mk a) (Vm.Alike.refl U.vm) qK, qD, sF.moved (u := U) (U := U.calling g mk a) (Vm.Alike.refl U.vm) qZ, nF.same rfl qN⟩, va_recv hK hP (ci := 1) (q0 := a) rfl (wld_o ct ad G M9 hc hk (by decide)), fun U hU hW => ⟨rfl, by rw [hU], by rw [hU]; exact hP, va_K.moved hW.alike hK, hD.weaken (fun _ _ _ _ => trivial), by rw [hU]; exact ((hZ.kept hS.2.1).narrow hf9).moved hW.alike, hN.warm hW⟩⟩ rfl rfl hl.1 rfl (lv_room (by simp only [List.map, va_re_cat]; exact Nat.le_of_ble_eq_true rfl)) dX1_readHeader_53 ⟨(Nat.zero_le _), (Nat.zero_le _)⟩) hS (fun q _ h => hf9 q h) hf9 (fun r u t H locs ht hvm hw hB hz1 hk1 hS => ?_)
  obtain ⟨hP, hK9, hD9⟩ := hB
  rw [ht] at hP
  try dsimp only at hw
  subst hw
  have hD := hD9.weaken (fun _ q _ h => hf9 q.1 h)
  refine lv_iconst (v := (5 : Int32)) hx hb dX1_readHeader_56 (by decide) ?_
  refine lv_irem hx hb dX1_readHeader_57 (by decide) ?_
  obtain ⟨x13, ex13, hF⟩ := ltt_some hF
  refine lv_topi (fun zx13 ezx13 => ?_)
  obtain rfl : x13 = zx13 := ex13.trans ezx13.symm
  refine W_st (st' := [.int x13, .int (1 : Int32), .ref (ad b4)]) (by rw [va_some ho4]) ?_
  obtain ⟨hvc, hF⟩ := chk_some hF
  refine va_iast hx hb hK hP hD hS b4 1 (wld_i ct ad G y12.1 hc4 hk4) rfl hvc dX1_readHeader_58 (fun H locs hP hD hS => ?_)
  obtain ⟨M14, eM14, hF⟩ := ltt_some hF
  rw [set_i ct ad G y12.1 hc4 hk4, ← eM14] at hP hD
  refine lv_aloadq_n hx hb dX1_readHeader_59 rfl (lv_at hl 1 rfl) ?_
  refine lv_iconst (v := (1 : Int32)) hx hb dX1_readHeader_60 (by decide) ?_
  refine W_st (st' := [.int (1 : Int32), .ref (ad b4)]) (by rw [va_some ho4]) ?_
  obtain ⟨hvc, hF⟩ := chk_some hF
  refine va_iald hx hb hK hP b4 1 (wld_i ct ad G M14 hc4 hk4) rfl hvc dX1_readHeader_61 ?_
  obtain ⟨x15, ex15, hF⟩ := ltt_some hF
  refine lv_topi (fun zx15 ezx15 => ?_)
  obtain rfl : x15 = zx15 := ex15.trans ezx15.symm
  refine lv_iconst (v := (2 : Int32)) hx hb dX1_readHeader_62 (by decide) ?_
  obtain ⟨y16, hy16, hF⟩ := bnd_some hF
  have J16 : ∀ (H : Heap) (locs : List Loc) (ls : Array Slot), va_P D classes (wld ct ad G y16) H → va_D A (wld ct ad G y16) → va_S A s.heap H locs → lv_has ls 8 [(4, .int x11), (3, va_re ad (M.2 b2 0)), (0, .ref (ad a)), (1, .int p0), (2, .int p1)] → W p l e (headSpec wuX1_readHeader ({ frames := 5, cells := 0, slots := 0, locals := 131 })).room s m ([.ref (ad a), .int p0, .int p1] : List Value).toArray below meth c H locs 0 0 (MQ below (va_Qv (fun (_ : Unit) => True) (fun _ t => kE D ct ad G A y t) A) ([.ref (ad a), .int p0, .int p1] : List Value).toArray s 0 0 A) (F0 m 66 ls []) := by
    intro H locs ls hP hD hS hl
    refine lv_iload_n hx hb dX1_readHeader_66 rfl (lv_at hl 3 rfl) ?_
    refine lv_iconst (v := (5 : Int32)) hx hb dX1_readHeader_67 (by decide) ?_
    obtain ⟨y17, hy17, hF⟩ := bnd_some hF
    have J17 : ∀ (H : Heap) (locs : List Loc) (ls : Array Slot), va_P D classes (wld ct ad G y17) H → va_D A (wld ct ad G y17) → va_S A s.heap H locs → lv_has ls 8 [(4, .int x11), (3, va_re ad (M.2 b2 0)), (0, .ref (ad a)), (1, .int p0), (2, .int p1)] → W p l e (headSpec wuX1_readHeader ({ frames := 5, cells := 0, slots := 0, locals := 131 })).room s m ([.ref (ad a), .int p0, .int p1] : List Value).toArray below meth c H locs 0 0 (MQ below (va_Qv (fun (_ : Unit) => True) (fun _ t => kE D ct ad G A y t) A) ([.ref (ad a), .int p0, .int p1] : List Value).toArray s 0 0 A) (F0 m 93 ls []) := by
      intro H locs ls hP hD hS hl
      refine lv_aloadq_n hx hb dX1_readHeader_93 rfl (lv_at hl 1 rfl) ?_
      refine lv_iconst (v := (2 : Int32)) hx hb dX1_readHeader_94 (by decide) ?_
      refine lv_aload_n hx hb dX1_readHeader_95 rfl (lv_at hl 2 rfl) ?_
      refine lv_iconst (v := (3 : Int32)) hx hb dX1_readHeader_96 (by decide) ?_
      obtain ⟨y18, hy18, hF⟩ := bnd_some hF
      have hf9 := wA_in hD hA9 hS
      refine va_calli (va_runV (As := [.int (3 : Int32)]) (rest := [.int (2 : Int32), va_re ad (M.2 b2 0)]) ⟨hx, hb, hml, hown, hts⟩ (kX1_unsigned l D ct ad Z G y17 H.size a ((3 : Int32)) y18 hc hk hy18) (cwV 1 hts gX1_readHeader_X1_unsigned rfl rfl rfl (by decide +kernel) ⟨Nat.le_of_ble_eq_true rfl, Nat.le_of_ble_eq_true rfl⟩) ⟨fun a U g mk q => by obtain ⟨q0, q1, qP, qK, qD, qZ, qN⟩ := q; exact ⟨q0, q1, qP, va_K.moved (u := U) (U := U.calling g mk a) (Vm.Alike.refl U.vm) qK, qD, sF.moved (u := U) (U := U.calling g mk a) (Vm.Alike.refl U.vm) qZ, nF.same rfl qN⟩, va_recv hK hP (ci := 1) (q0 := a) rfl (wld_o ct ad G y17 hc hk (by decide)), fun U hU hW => ⟨rfl, by rw [hU], by rw [hU]; exact hP, va_K.moved hW.alike hK, hD.weaken (fun _ _ _ _ => trivial), by rw [hU]; exact ((hZ.kept hS.2.1).narrow hf9).moved hW.alike, hN.warm hW⟩⟩ rfl rfl hl.1 rfl (lv_room (by simp only [List.map, va_re_cat]; exact Nat.le_of_ble_eq_true rfl)) dX1_readHeader_97 ⟨(Nat.zero_le _), (Nat.zero_le _)⟩) hS (fun q _ h => hf9 q h) hf9 (fun r u t H locs ht hvm hw hB hz1 hk1 hS => ?_)
      obtain ⟨hP, hK9, hD9⟩ := hB
      rw [ht] at hP
      try dsimp only at hw
      subst hw
      have hD := hD9.weaken (fun _ q _ h => hf9 q.1 h)
      refine W_st (st' := [.int y18.2, .int (2 : Int32), .ref (ad b4)]) (by rw [va_some ho4]) ?_
      obtain ⟨hvc, hF⟩ := chk_some hF
      refine va_iast hx hb hK hP hD hS b4 1 (wld_i ct ad G y18.1 hc4 hk4) rfl hvc dX1_readHeader_100 (fun H locs hP hD hS => ?_)
      obtain ⟨M19, eM19, hF⟩ := ltt_some hF
      rw [set_i ct ad G y18.1 hc4 hk4, ← eM19] at hP hD
      refine lv_aload_n hx hb dX1_readHeader_101 rfl (lv_at hl 2 rfl) ?_
      refine va_get (D := D) (ci := 1) (v := va_re ad (M19.2 a 6)) (C := RX1) (T := TX1) (N := 22) hx hb hts (mus hf_X1) hown hK hP a (wld_o ct ad G M19 hc hk (by decide)) rfl 6 (by decide) (hts (.fieldLink RX1 51 "VideoSuite$Decoder" "parameters" "[[I") (mu mw_648)) (fun _ h9 => h9) rfl dX1_readHeader_102 ?_
      refine lv_aloadq_n hx hb dX1_readHeader_105 rfl (lv_at hl 1 rfl) ?_
      refine lv_iconst (v := (2 : Int32)) hx hb dX1_readHeader_106 (by decide) ?_
      refine W_st (st' := [.int (2 : Int32), .ref (ad b4), va_re ad (M19.2 a 6)]) (by rw [va_some ho4]) ?_
      obtain ⟨hvc, hF⟩ := chk_some hF
      refine va_iald hx hb hK hP b4 1 (wld_i ct ad G M19 hc4 hk4) rfl hvc dX1_readHeader_107 ?_
      obtain ⟨x20, ex20, hF⟩ := ltt_some hF
      refine lv_topi (fun zx20 ezx20 => ?_)
      obtain rfl : x20 = zx20 := ex20.trans ezx20.symm
      obtain ⟨b21, ho21, hc21, hk21, hF⟩ := dr_some hF
      refine W_st (st' := [.int x20, .ref (ad b21)]) (by rw [va_some ho21]) ?_
      obtain ⟨hvc, hF⟩ := chk_some hF
      refine ld_g hx hb hK hP hc21 hk21 hvc dX1_readHeader_108 ?_
      refine lv_astoreq (lv' := [(5, va_re ad (M19.2 b21 x20.toNatClampNeg)), (4, .int x11), (3, va_re ad (M.2 b2 0)), (0, .ref (ad a)), (1, .int p0), (2, .int p1)]) hx hb dX1_readHeader_109 hl (by decide) rfl (fun ls hl => ?_)
      refine lv_aloadq hx hb dX1_readHeader_111 (lv_at hl 0 rfl) ?_
      refine lv_iconst (v := (0 : Int32)) hx hb dX1_readHeader_113 (by decide) ?_
      obtain ⟨b22, ho22, hc22, hk22, hF⟩ := dr_some hF
      refine W_st (st' := [.int (0 : Int32), .ref (ad b22)]) (by rw [va_some ho22]) ?_
      obtain ⟨hvc, hF⟩ := chk_some hF
      refine va_iald hx hb hK hP b22 1 (wld_i ct ad G M19 hc22 hk22) rfl hvc dX1_readHeader_114 ?_
      obtain ⟨x23, ex23, hF⟩ := ltt_some hF
      refine lv_topi (fun zx23 ezx23 => ?_)
      obtain rfl : x23 = zx23 := ex23.trans ezx23.symm
      refine lv_istore (lv' := [(6, .int x23), (5, va_re ad (M19.2 b21 x20.toNatClampNeg)), (4, .int x11), (3, va_re ad (M.2 b2 0)), (0, .ref (ad a)), (1, .int p0), (2, .int p1)]) hx hb dX1_readHeader_115 hl (by decide) (by generalize ((M19.2 b21 x20.toNatClampNeg)) = o9; cases o9 <;> rfl) (fun ls hl => ?_)
      refine lv_aloadq hx hb dX1_readHeader_117 (lv_at hl 1 rfl) ?_
      refine lv_bipush (v := (11 : Int32)) hx hb dX1_readHeader_119 (by decide) ?_
      refine W_st (st' := [.int (11 : Int32), .ref (ad b22)]) (by rw [va_some ho22]) ?_
      obtain ⟨hvc, hF⟩ := chk_some hF
      refine va_iald hx hb hK hP b22 1 (wld_i ct ad G M19 hc22 hk22) rfl hvc dX1_readHeader_121 ?_
      obtain ⟨x24, ex24, hF⟩ := ltt_some hF
      refine lv_topi (fun zx24 ezx24 => ?_)
      obtain rfl : x24 = zx24 := ex24.trans ezx24.symm
      obtain ⟨y25, hy25, hF⟩ := bnd_some hF
      have J25 : ∀ (H : Heap) (locs : List Loc) (ls : Array Slot), va_P D classes (wld ct ad G y25) H → va_D A (wld ct ad G y25) → va_S A s.heap H locs → lv_has ls 8 [(6, .int x23), (5, va_re ad (M19.2 b21 x20.toNatClampNeg)), (4, .int x11), (3, va_re ad (M.2 b2 0)), (0, .ref (ad a)), (1, .int p0), (2, .int p1)] → W p l e (headSpec wuX1_readHeader ({ frames := 5, cells := 0, slots := 0, locals := 131 })).room s m ([.ref (ad a), .int p0, .int p1] : List Value).toArray below meth c H locs 0 0 (MQ below (va_Qv (fun (_ : Unit) => True) (fun _ t => kE D ct ad G A y t) A) ([.ref (ad a), .int p0, .int p1] : List Value).toArray s 0 0 A) (F0 m 125 ls []) := by
        intro H locs ls hP hD hS hl
        refine lv_aload_n hx hb dX1_readHeader_125 rfl (lv_at hl 4 rfl) ?_
        refine va_get (D := D) (ci := 1) (v := va_re ad (y25.2 a 5)) (C := RX1) (T := TX1) (N := 22) hx hb hts (mus hf_X1) hown hK hP a (wld_o ct ad G y25 hc hk (by decide)) rfl 5 (by decide) (hts (.fieldLink RX1 48 "VideoSuite$Decoder" "sequences" "[[I") (mu mw_647)) (fun _ h9 => h9) rfl dX1_readHeader_126 ?_
        refine lv_iload hx hb dX1_readHeader_129 (lv_at hl 0 rfl) ?_
        obtain ⟨b26, ho26, hc26, hk26, hF⟩ := dr_some hF
        refine W_st (st' := [.int x23, .ref (ad b26)]) (by rw [va_some ho26]) ?_
        obtain ⟨hvc, hF⟩ := chk_some hF
        refine ld_g hx hb hK hP hc26 hk26 hvc dX1_readHeader_131 ?_
        refine lv_bipush (v := (23 : Int32)) hx hb dX1_readHeader_132 (by decide) ?_
        obtain ⟨b27, ho27, hc27, hk27, hF⟩ := dr_some hF
        refine W_st (st' := [.int (23 : Int32), .ref (ad b27)]) (by rw [va_some ho27]) ?_
        obtain ⟨hvc, hF⟩ := chk_some hF
        refine va_iald hx hb hK hP b27 1 (wld_i ct ad G y25 hc27 hk27) rfl hvc dX1_readHeader_134 ?_
        obtain ⟨x28, ex28, hF⟩ := ltt_some hF
        refine lv_topi (fun zx28 ezx28 => ?_)
        obtain rfl : x28 = zx28 := ex28.trans ezx28.symm
        obtain ⟨y29, hy29, hF⟩ := bnd_some hF
        have J29 : ∀ (H : Heap) (locs : List Loc) (ls : Array Slot), va_P D classes (wld ct ad G y29) H → va_D A (wld ct ad G y29) → va_S A s.heap H locs → lv_has ls 8 [(6, .int x23), (5, va_re ad (M19.2 b21 x20.toNatClampNeg)), (4, .int x11), (3, va_re ad (M.2 b2 0)), (0, .ref (ad a)), (1, .int p0), (2, .int p1)] → W p l e (headSpec wuX1_readHeader ({ frames := 5, cells := 0, slots := 0, locals := 131 })).room s m ([.ref (ad a), .int p0, .int p1] : List Value).toArray below meth c H locs 0 0 (MQ below (va_Qv (fun (_ : Unit) => True) (fun _ t => kE D ct ad G A y t) A) ([.ref (ad a), .int p0, .int p1] : List Value).toArray s 0 0 A) (F0 m 138 ls []) := by
          intro H locs ls hP hD hS hl
          refine lv_iload_n hx hb dX1_readHeader_138 rfl (lv_at hl 5 rfl) ?_
          refine lv_iconst (v := (1 : Int32)) hx hb dX1_readHeader_139 (by decide) ?_
          obtain ⟨y30, hy30, hF⟩ := bnd_some hF
          have J30 : ∀ (H : Heap) (locs : List Loc) (ls : Array Slot), va_P D classes (wld ct ad G y30) H → va_D A (wld ct ad G y30) → va_S A s.heap H locs → lv_has ls 8 [(6, .int x23), (5, va_re ad (M19.2 b21 x20.toNatClampNeg)), (4, .int x11), (3, va_re ad (M.2 b2 0)), (0, .ref (ad a)), (1, .int p0), (2, .int p1)] → W p l e (headSpec wuX1_readHeader ({ frames := 5, cells := 0, slots := 0, locals := 131 })).room s m ([.ref (ad a), .int p0, .int p1] : List Value).toArray below meth c H locs 0 0 (MQ below (va_Qv (fun (_ : Unit) => True) (fun _ t => kE D ct ad G A y t) A) ([.ref (ad a), .int p0, .int p1] : List Value).toArray s 0 0 A) (F0 m 167 ls []) := by
            intro H locs ls hP hD hS hl
            refine lv_iload_n hx hb dX1_readHeader_167 rfl (lv_at hl 5 rfl) ?_
            refine lv_iconst (v := (1 : Int32)) hx hb dX1_readHeader_168 (by decide) ?_
            obtain ⟨y31, hy31, hF⟩ := bnd_some hF
            have J31 : ∀ (H : Heap) (locs : List Loc) (ls : Array Slot), va_P D classes (wld ct ad G y30) H → va_D A (wld ct ad G y30) → va_S A s.heap H locs → lv_has ls 8 [(6, .int x23), (5, va_re ad (M19.2 b21 x20.toNatClampNeg)), (4, .int x11), (3, va_re ad (M.2 b2 0)), (0, .ref (ad a)), (1, .int p0), (2, .int p1)] → W p l e (headSpec wuX1_readHeader ({ frames := 5, cells := 0, slots := 0, locals := 131 })).room s m ([.ref (ad a), .int p0, .int p1] : List Value).toArray below meth c H locs 0 0 (MQ below (va_Qv (fun (_ : Unit) => True) (fun _ t => kE D ct ad G A y t) A) ([.ref (ad a), .int p0, .int p1] : List Value).toArray s 0 0 A) (F0 m 186 ls [va_re ad y31]) := by
              intro H locs ls hP hD hS hl
              refine lv_astoreq (lv' := [(7, va_re ad y31), (6, .int x23), (5, va_re ad (M19.2 b21 x20.toNatClampNeg)), (4, .int x11), (3, va_re ad (M.2 b2 0)), (0, .ref (ad a)), (1, .int p0), (2, .int p1)]) hx hb dX1_readHeader_186 hl (by decide) rfl (fun ls hl => ?_)
              refine lv_aloadq_n hx hb dX1_readHeader_188 rfl (lv_at hl 4 rfl) ?_
              refine lv_iconst (v := (0 : Int32)) hx hb dX1_readHeader_189 (by decide) ?_
              refine W_st (st' := [.int (0 : Int32), .ref (ad b4)]) (by rw [va_some ho4]) ?_
              obtain ⟨hvc, hF⟩ := chk_some hF
              refine va_iald hx hb hK hP b4 1 (wld_i ct ad G y30 hc4 hk4) rfl hvc dX1_readHeader_190 ?_
              obtain ⟨x32, ex32, hF⟩ := ltt_some hF
              refine lv_topi (fun zx32 ezx32 => ?_)
              obtain rfl : x32 = zx32 := ex32.trans ezx32.symm
              obtain ⟨y33, hy33, hF⟩ := bnd_some hF
              have J33 : ∀ (H : Heap) (locs : List Loc) (ls : Array Slot), va_P D classes (wld ct ad G y33) H → va_D A (wld ct ad G y33) → va_S A s.heap H locs → lv_has ls 8 [(7, va_re ad y31), (6, .int x23), (5, va_re ad (M19.2 b21 x20.toNatClampNeg)), (4, .int x11), (3, va_re ad (M.2 b2 0)), (0, .ref (ad a)), (1, .int p0), (2, .int p1)] → W p l e (headSpec wuX1_readHeader ({ frames := 5, cells := 0, slots := 0, locals := 131 })).room s m ([.ref (ad a), .int p0, .int p1] : List Value).toArray below meth c H locs 0 0 (MQ below (va_Qv (fun (_ : Unit) => True) (fun _ t => kE D ct ad G A y t) A) ([.ref (ad a), .int p0, .int p1] : List Value).toArray s 0 0 A) (F0 m 194 ls []) := by
                intro H locs ls hP hD hS hl
                refine lv_aloadq_n hx hb dX1_readHeader_194 rfl (lv_at hl 4 rfl) ?_
                refine lv_iconst (v := (0 : Int32)) hx hb dX1_readHeader_195 (by decide) ?_
                refine W_st (st' := [.int (0 : Int32), .ref (ad b4)]) (by rw [va_some ho4]) ?_
                obtain ⟨hvc, hF⟩ := chk_some hF
                refine va_iald hx hb hK hP b4 1 (wld_i ct ad G y33 hc4 hk4) rfl hvc dX1_readHeader_196 ?_
                obtain ⟨x34, ex34, hF⟩ := ltt_some hF
                refine lv_topi (fun zx34 ezx34 => ?_)
                obtain rfl : x34 = zx34 := ex34.trans ezx34.symm
                refine lv_aloadq hx hb dX1_readHeader_197 (lv_at hl 0 rfl) ?_
                refine lv_iconst (v := (0 : Int32)) hx hb dX1_readHeader_199 (by decide) ?_
                obtain ⟨b35, ho35, hc35, hk35, hF⟩ := dr_some hF
                refine W_st (st' := [.int (0 : Int32), .ref (ad b35), .int x34]) (by rw [va_some ho35]) ?_
                obtain ⟨hvc, hF⟩ := chk_some hF
                refine va_iald hx hb hK hP b35 1 (wld_i ct ad G y33 hc35 hk35) rfl hvc dX1_readHeader_200 ?_
                obtain ⟨x36, ex36, hF⟩ := ltt_some hF
                refine lv_topi (fun zx36 ezx36 => ?_)
                obtain rfl : x36 = zx36 := ex36.trans ezx36.symm
                refine lv_aloadq hx hb dX1_readHeader_201 (lv_at hl 0 rfl) ?_
                refine lv_iconst (v := (1 : Int32)) hx hb dX1_readHeader_203 (by decide) ?_
                refine W_st (st' := [.int (1 : Int32), .ref (ad b35), .int x36, .int x34]) (by rw [va_some ho35]) ?_
                obtain ⟨hvc, hF⟩ := chk_some hF
                refine va_iald hx hb hK hP b35 1 (wld_i ct ad G y33 hc35 hk35) rfl hvc dX1_readHeader_204 ?_
                obtain ⟨x37, ex37, hF⟩ := ltt_some hF
                refine lv_topi (fun zx37 ezx37 => ?_)
                obtain rfl : x37 = zx37 := ex37.trans ezx37.symm
                refine lv_imul hx hb dX1_readHeader_205 ?_
                obtain ⟨x38, ex38, hF⟩ := ltt_some hF
                refine lv_topi (fun zx38 ezx38 => ?_)
                obtain rfl : x38 = zx38 := ex38.trans ezx38.symm
                obtain ⟨y39, hy39, hF⟩ := bnd_some hF
                have J39 : ∀ (H : Heap) (locs : List Loc) (ls : Array Slot), va_P D classes (wld ct ad G y39) H → va_D A (wld ct ad G y39) → va_S A s.heap H locs → lv_has ls 8 [(7, va_re ad y31), (6, .int x23), (5, va_re ad (M19.2 b21 x20.toNatClampNeg)), (4, .int x11), (3, va_re ad (M.2 b2 0)), (0, .ref (ad a)), (1, .int p0), (2, .int p1)] → W p l e (headSpec wuX1_readHeader ({ frames := 5, cells := 0, slots := 0, locals := 131 })).room s m ([.ref (ad a), .int p0, .int p1] : List Value).toArray below meth c H locs 0 0 (MQ below (va_Qv (fun (_ : Unit) => True) (fun _ t => kE D ct ad G A y t) A) ([.ref (ad a), .int p0, .int p1] : List Value).toArray s 0 0 A) (F0 m 219 ls []) := by
                  intro H locs ls hP hD hS hl
                  refine lv_aloadq_n hx hb dX1_readHeader_219 rfl (lv_at hl 4 rfl) ?_
                  refine lv_bipush (v := (21 : Int32)) hx hb dX1_readHeader_220 (by decide) ?_
                  refine lv_aload_n hx hb dX1_readHeader_222 rfl (lv_at hl 5 rfl) ?_
                  refine va_get (D := D) (ci := 1) (v := va_re ad (y39.2 a 0)) (C := RX1) (T := TX1) (N := 22) hx hb hts (mus hf_X1) hown hK hP a (wld_o ct ad G y39 hc hk (by decide)) rfl 0 (by decide) (hts (.fieldLink RX1 12 "VideoSuite$Decoder" "reader" "LVideoSuite$Reader;") (mu mw_640)) (fun _ h9 => h9) rfl dX1_readHeader_223 ?_
                  obtain ⟨b40, ho40, hc40, hk40, hF⟩ := dr_some hF
                  refine W_st (st' := [.ref (ad b40), .int (21 : Int32), va_re ad (M.2 b2 0)]) (by rw [va_some ho40]) ?_
                  refine va_get (D := D) (ci := 5) (v := .int (y39.1 b40 2)) (C := RX5) (T := TX5) (N := 17) hx hb hts (mus hf_X5) hown hK hP b40 (wld_o ct ad G y39 hc40 hk40 (by decide)) rfl 2 (by decide) (hts (.fieldLink RX1 217 "VideoSuite$Reader" "place" "I") (mu mw_290)) (fun _ h9 => h9) rfl dX1_readHeader_226 ?_
                  obtain ⟨x41, ex41, hF⟩ := ltt_some hF
                  refine lv_topi (fun zx41 ezx41 => ?_)
                  obtain rfl : x41 = zx41 := ex41.trans ezx41.symm
                  refine W_st (st' := [.int x41, .int (21 : Int32), .ref (ad b4)]) (by rw [va_some ho4]) ?_
                  obtain ⟨hvc, hF⟩ := chk_some hF
                  refine va_iast hx hb hK hP hD hS b4 1 (wld_i ct ad G y39 hc4 hk4) rfl hvc dX1_readHeader_229 (fun H locs hP hD hS => ?_)
                  obtain ⟨M42, eM42, hF⟩ := ltt_some hF
                  rw [set_i ct ad G y39 hc4 hk4, ← eM42] at hP hD
                  refine lv_aloadq_n hx hb dX1_readHeader_230 rfl (lv_at hl 4 rfl) ?_
                  refine lv_iconst (v := (3 : Int32)) hx hb dX1_readHeader_231 (by decide) ?_
                  refine lv_aload_n hx hb dX1_readHeader_232 rfl (lv_at hl 5 rfl) ?_
                  refine va_get (D := D) (ci := 1) (v := va_re ad (M42.2 a 0)) (C := RX1) (T := TX1) (N := 22) hx hb hts (mus hf_X1) hown hK hP a (wld_o ct ad G M42 hc hk (by decide)) rfl 0 (by decide) (hts (.fieldLink RX1 12 "VideoSuite$Decoder" "reader" "LVideoSuite$Reader;") (mu mw_640)) (fun _ h9 => h9) rfl dX1_readHeader_233 ?_
                  refine lv_iconst (v := (0 : Int32)) hx hb dX1_readHeader_236 (by decide) ?_
                  refine lv_aloadq hx hb dX1_readHeader_237 (lv_at hl 0 rfl) ?_
                  refine lv_iconst (v := (2 : Int32)) hx hb dX1_readHeader_239 (by decide) ?_
                  refine W_st (st' := [.int (2 : Int32), .ref (ad b35), .int (0 : Int32), va_re ad (M42.2 a 0), .int (3 : Int32), va_re ad (M.2 b2 0)]) (by rw [va_some ho35]) ?_
                  obtain ⟨hvc, hF⟩ := chk_some hF
                  refine va_iald hx hb hK hP b35 1 (wld_i ct ad G M42 hc35 hk35) rfl hvc dX1_readHeader_240 ?_
                  obtain ⟨x43, ex43, hF⟩ := ltt_some hF
                  refine lv_topi (fun zx43 ezx43 => ?_)
                  obtain rfl : x43 = zx43 := ex43.trans ezx43.symm
                  obtain ⟨b44, ho44, hc44, hk44, hF⟩ := dr_some hF
                  refine W_st (st' := [.int x43, .int (0 : Int32), .ref (ad b44), .int (3 : Int32), va_re ad (M.2 b2 0)]) (by rw [va_some ho44]) ?_
                  obtain ⟨y45, hy45, hF⟩ := bnd_some hF
                  have hf9 := wA_in hD hA9 hS
                  refine va_calli (va_runV (As := [.int (0 : Int32), .int x43]) (rest := [.int (3 : Int32), va_re ad (M.2 b2 0)]) ⟨hx, hb, hml, hown, hts⟩ (kX5_fixed l D ct ad Z G M42 H.size b44 ((0 : Int32)) x43 y45 hc44 hk44 hy45) (cwV 2 hts gX1_readHeader_X5_fixed rfl rfl rfl (by decide +kernel) ⟨Nat.le_of_ble_eq_true rfl, Nat.le_of_ble_eq_true rfl⟩) ⟨fun a U g mk q => by obtain ⟨q0, q1, qP, qK, qD, qZ, qN⟩ := q; exact ⟨q0, q1, qP, va_K.moved (u := U) (U := U.calling g mk a) (Vm.Alike.refl U.vm) qK, qD, sF.moved (u := U) (U := U.calling g mk a) (Vm.Alike.refl U.vm) qZ, nF.same rfl qN⟩, va_recv hK hP (ci := 5) (q0 := b44) rfl (wld_o ct ad G M42 hc44 hk44 (by decide)), fun U hU hW => ⟨rfl, by rw [hU], by rw [hU]; exact hP, va_K.moved hW.alike hK, hD.weaken (fun _ _ _ _ => trivial), by rw [hU]; exact ((hZ.kept hS.2.1).narrow hf9).moved hW.alike, hN.warm hW⟩⟩ rfl rfl hl.1 rfl (lv_room (by simp only [List.map, va_re_cat]; exact Nat.le_of_ble_eq_true rfl)) dX1_readHeader_241 ⟨(Nat.zero_le _), (Nat.zero_le _)⟩) hS (fun q _ h => hf9 q h) hf9 (fun r u t H locs ht hvm hw hB hz1 hk1 hS => ?_)
                  obtain ⟨hP, hK9, hD9⟩ := hB
                  rw [ht] at hP
                  try dsimp only at hw
                  subst hw
                  have hD := hD9.weaken (fun _ q _ h => hf9 q.1 h)
                  refine W_st (st' := [.int y45.2, .int (3 : Int32), .ref (ad b4)]) (by rw [va_some ho4]) ?_
                  obtain ⟨hvc, hF⟩ := chk_some hF
                  refine va_iast hx hb hK hP hD hS b4 1 (wld_i ct ad G y45.1 hc4 hk4) rfl hvc dX1_readHeader_244 (fun H locs hP hD hS => ?_)
                  obtain ⟨M46, eM46, hF⟩ := ltt_some hF
                  rw [set_i ct ad G y45.1 hc4 hk4, ← eM46] at hP hD
                  refine lv_iload_n hx hb dX1_readHeader_245 rfl (lv_at hl 6 rfl) ?_
                  refine lv_iconst (v := (5 : Int32)) hx hb dX1_readHeader_246 (by decide) ?_
                  obtain ⟨y47, hy47, hF⟩ := bnd_some hF
                  have J47 : ∀ (H : Heap) (locs : List Loc) (ls : Array Slot), va_P D classes (wld ct ad G y47) H → va_D A (wld ct ad G y47) → va_S A s.heap H locs → lv_has ls 8 [(7, va_re ad y31), (6, .int x23), (5, va_re ad (M19.2 b21 x20.toNatClampNeg)), (4, .int x11), (3, va_re ad (M.2 b2 0)), (0, .ref (ad a)), (1, .int p0), (2, .int p1)] → W p l e (headSpec wuX1_readHeader ({ frames := 5, cells := 0, slots := 0, locals := 131 })).room s m ([.ref (ad a), .int p0, .int p1] : List Value).toArray below meth c H locs 0 0 (MQ below (va_Qv (fun (_ : Unit) => True) (fun _ t => kE D ct ad G A y t) A) ([.ref (ad a), .int p0, .int p1] : List Value).toArray s 0 0 A) (F0 m 280 ls []) := by
                    intro H locs ls hP hD hS hl
                    refine lv_aload_n hx hb dX1_readHeader_280 rfl (lv_at hl 5 rfl) ?_
                    refine lv_aloadq hx hb dX1_readHeader_281 (lv_at hl 0 rfl) ?_
                    refine lv_aloadq hx hb dX1_readHeader_283 (lv_at hl 2 rfl) ?_
                    obtain ⟨y48, hy48, hF⟩ := bnd_some hF
                    have hf9 := wA_in hD hA9 hS
                    refine va_callv (va_runV (As := [va_re ad y31, va_re ad (M19.2 b21 x20.toNatClampNeg)]) (rest := []) ⟨hx, hb, hml, hown, hts⟩ (kX1_readOrder l D ct ad Z G y47 H.size a y31 ((M19.2 b21 x20.toNatClampNeg)) y48 hc hk hy48) (cwV 2 hts gX1_readHeader_X1_readOrder rfl rfl rfl (by decide +kernel) ⟨Nat.le_of_ble_eq_true rfl, Nat.le_of_ble_eq_true rfl⟩) ⟨fun a U g mk q => by obtain ⟨q0, q1, qP, qK, qD, qZ, qN⟩ := q; exact ⟨q0, q1, qP, va_K.moved (u := U) (U := U.calling g mk a) (Vm.Alike.refl U.vm) qK, qD, sF.moved (u := U) (U := U.calling g mk a) (Vm.Alike.refl U.vm) qZ, nF.same rfl qN⟩, va_recv hK hP (ci := 1) (q0 := a) rfl (wld_o ct ad G y47 hc hk (by decide)), fun U hU hW => ⟨rfl, by rw [hU], by rw [hU]; exact hP, va_K.moved hW.alike hK, hD.weaken (fun _ _ _ _ => trivial), by rw [hU]; exact ((hZ.kept hS.2.1).narrow hf9).moved hW.alike, hN.warm hW⟩⟩ rfl rfl hl.1 rfl (lv_room (Nat.le_of_ble_eq_true rfl)) dX1_readHeader_285 ⟨(Nat.zero_le _), (Nat.zero_le _)⟩) hS (fun q _ h => hf9 q h) hf9 (fun u t H locs ht hvm hw hB hz1 hk1 hS => ?_)
                    obtain ⟨hP, hK9, hD9⟩ := hB
                    rw [ht] at hP
                    have hD := hD9.weaken (fun _ q _ h => hf9 q.1 h)
                    refine lv_aloadq_n hx hb dX1_readHeader_288 rfl (lv_at hl 4 rfl) ?_
                    refine lv_iconst (v := (1 : Int32)) hx hb dX1_readHeader_289 (by decide) ?_
                    refine W_st (st' := [.int (1 : Int32), .ref (ad b4)]) (by rw [va_some ho4]) ?_
                    obtain ⟨hvc, hF⟩ := chk_some hF
                    refine va_iald hx hb hK hP b4 1 (wld_i ct ad G y48 hc4 hk4) rfl hvc dX1_readHeader_290 ?_
                    obtain ⟨x49, ex49, hF⟩ := ltt_some hF
                    refine lv_topi (fun zx49 ezx49 => ?_)
                    obtain rfl : x49 = zx49 := ex49.trans ezx49.symm
                    refine lv_iconst (v := (2 : Int32)) hx hb dX1_readHeader_291 (by decide) ?_
                    obtain ⟨y50, hy50, hF⟩ := bnd_some hF
                    have J50 : ∀ (H : Heap) (locs : List Loc) (ls : Array Slot), va_P D classes (wld ct ad G y50) H → va_D A (wld ct ad G y50) → va_S A s.heap H locs → lv_has ls 8 [(7, va_re ad y31), (6, .int x23), (5, va_re ad (M19.2 b21 x20.toNatClampNeg)), (4, .int x11), (3, va_re ad (M.2 b2 0)), (0, .ref (ad a)), (1, .int p0), (2, .int p1)] → W p l e (headSpec wuX1_readHeader ({ frames := 5, cells := 0, slots := 0, locals := 131 })).room s m ([.ref (ad a), .int p0, .int p1] : List Value).toArray below meth c H locs 0 0 (MQ below (va_Qv (fun (_ : Unit) => True) (fun _ t => kE D ct ad G A y t) A) ([.ref (ad a), .int p0, .int p1] : List Value).toArray s 0 0 A) (F0 m 303 ls []) := by
                      intro H locs ls hP hD hS hl
                      refine lv_iload_n hx hb dX1_readHeader_303 rfl (lv_at hl 7 rfl) ?_
                      obtain ⟨y51, hy51, hF⟩ := bnd_some hF
                      have J51 : ∀ (H : Heap) (locs : List Loc) (ls : Array Slot), va_P D classes (wld ct ad G y51) H → va_D A (wld ct ad G y51) → va_S A s.heap H locs → lv_has ls 8 [(7, va_re ad y31), (6, .int x23), (5, va_re ad (M19.2 b21 x20.toNatClampNeg)), (4, .int x11), (3, va_re ad (M.2 b2 0)), (0, .ref (ad a)), (1, .int p0), (2, .int p1)] → W p l e (headSpec wuX1_readHeader ({ frames := 5, cells := 0, slots := 0, locals := 131 })).room s m ([.ref (ad a), .int p0, .int p1] : List Value).toArray below meth c H locs 0 0 (MQ below (va_Qv (fun (_ : Unit) => True) (fun _ t => kE D ct ad G A y t) A) ([.ref (ad a), .int p0, .int p1] : List Value).toArray s 0 0 A) (F0 m 312 ls []) := by
                        intro H locs ls hP hD hS hl
                        refine lv_aload_n hx hb dX1_readHeader_312 rfl (lv_at hl 5 rfl) ?_
                        refine lv_aloadq hx hb dX1_readHeader_313 (lv_at hl 2 rfl) ?_
                        obtain ⟨y52, hy52, hF⟩ := bnd_some hF
                        have hf9 := wA_in hD hA9 hS
                        refine va_callv (va_runV (As := [va_re ad (M19.2 b21 x20.toNatClampNeg)]) (rest := []) ⟨hx, hb, hml, hown, hts⟩ (kX1_readRules l D ct ad Z G y51 H.size a ((M19.2 b21 x20.toNatClampNeg)) y52 hc hk hy52) (cwV 1 hts gX1_readHeader_X1_readRules rfl rfl rfl (by decide +kernel) ⟨Nat.le_of_ble_eq_true rfl, Nat.le_of_ble_eq_true rfl⟩) ⟨fun a U g mk q => by obtain ⟨q0, q1, qP, qK, qD, qZ, qN⟩ := q; exact ⟨q0, q1, qP, va_K.moved (u := U) (U := U.calling g mk a) (Vm.Alike.refl U.vm) qK, qD, sF.moved (u := U) (U := U.calling g mk a) (Vm.Alike.refl U.vm) qZ, nF.same rfl qN⟩, va_recv hK hP (ci := 1) (q0 := a) rfl (wld_o ct ad G y51 hc hk (by decide)), fun U hU hW => ⟨rfl, by rw [hU], by rw [hU]; exact hP, va_K.moved hW.alike hK, hD.weaken (fun _ _ _ _ => trivial), by rw [hU]; exact ((hZ.kept hS.2.1).narrow hf9).moved hW.alike, hN.warm hW⟩⟩ rfl rfl hl.1 rfl (lv_room (Nat.le_of_ble_eq_true rfl)) dX1_readHeader_315 ⟨(Nat.zero_le _), (Nat.zero_le _)⟩) hS (fun q _ h => hf9 q h) hf9 (fun u t H locs ht hvm hw hB hz1 hk1 hS => ?_)
                        obtain ⟨hP, hK9, hD9⟩ := hB
                        rw [ht] at hP
                        have hD := hD9.weaken (fun _ q _ h => hf9 q.1 h)
                        obtain rfl := Option.some.inj hF
                        exact W.vret hx hb hr (fun t ht hW => ⟨⟨(), rfl, trivial, ⟨by rw [ht]; exact hP, va_K.moved hW.alike hK, hD⟩⟩, hS.F ht⟩) hS.2.2 dX1_readHeader_318
                      clear hF
                      have hF := hy51
                      clear hy51
                      refine lv_if_eq (tgt := 312) hx hb dX1_readHeader_304 (by decide) (fun c53 => ?_) (fun c53 => ?_)
                      · rw [if_pos c53] at hF
                        obtain rfl := Option.some.inj hF
                        exact J51 _ _ _ hP hD hS (lv_sub hl [0, 1, 2, 3, 4, 5, 6, 7] rfl)
                      · rw [if_neg c53] at hF
                        refine lv_aload_n hx hb dX1_readHeader_307 rfl (lv_at hl 5 rfl) ?_
                        refine lv_iload_n hx hb dX1_readHeader_308 rfl (lv_at hl 6 rfl) ?_
                        obtain ⟨y54, hy54, hF⟩ := bnd_some hF
                        have hf9 := wA_in hD hA9 hS
                        refine va_callv (va_runV (As := [.int p0]) (rest := []) ⟨hx, hb, hml, hown, hts⟩ (kX1_readMarks l D ct ad Z G y50 H.size a p0 y54 hc hk hy54) (cwV 1 hts gX1_readHeader_X1_readMarks rfl rfl rfl (by decide +kernel) ⟨Nat.le_of_ble_eq_true rfl, Nat.le_of_ble_eq_true rfl⟩) ⟨fun a U g mk q => by obtain ⟨q0, q1, qP, qK, qD, qZ, qN⟩ := q; exact ⟨q0, q1, qP, va_K.moved (u := U) (U := U.calling g mk a) (Vm.Alike.refl U.vm) qK, qD, sF.moved (u := U) (U := U.calling g mk a) (Vm.Alike.refl U.vm) qZ, nF.same rfl qN⟩, va_recv hK hP (ci := 1) (q0 := a) rfl (wld_o ct ad G y50 hc hk (by decide)), fun U hU hW => ⟨rfl, by rw [hU], by rw [hU]; exact hP, va_K.moved hW.alike hK, hD.weaken (fun _ _ _ _ => trivial), by rw [hU]; exact ((hZ.kept hS.2.1).narrow hf9).moved hW.alike, hN.warm hW⟩⟩ rfl rfl hl.1 rfl (lv_room (Nat.le_of_ble_eq_true rfl)) dX1_readHeader_309 ⟨(Nat.zero_le _), (Nat.zero_le _)⟩) hS (fun q _ h => hf9 q h) hf9 (fun u t H locs ht hvm hw hB hz1 hk1 hS => ?_)
                        obtain ⟨hP, hK9, hD9⟩ := hB
                        rw [ht] at hP
                        have hD := hD9.weaken (fun _ q _ h => hf9 q.1 h)
                        obtain rfl := Option.some.inj hF
                        exact J51 _ _ _ hP hD hS (lv_sub hl [0, 1, 2, 3, 4, 5, 6, 7] rfl)
                    clear hF
                    have hF := hy50
                    clear hy50
                    refine lv_icmp_eq (tgt := 303) hx hb dX1_readHeader_292 (by decide) (fun c55 => ?_) (fun c55 => ?_)
                    · rw [if_pos c55] at hF
                      obtain rfl := Option.some.inj hF
                      exact J50 _ _ _ hP hD hS (lv_sub hl [0, 1, 2, 3, 4, 5, 6, 7] rfl)
                    · rw [if_neg c55] at hF
                      refine lv_aload_n hx hb dX1_readHeader_295 rfl (lv_at hl 5 rfl) ?_
                      refine lv_aloadq hx hb dX1_readHeader_296 (lv_at hl 0 rfl) ?_
                      refine lv_aloadq hx hb dX1_readHeader_298 (lv_at hl 2 rfl) ?_
                      obtain ⟨y56, hy56, hF⟩ := bnd_some hF
                      have hf9 := wA_in hD hA9 hS
                      refine va_callv (va_runV (As := [va_re ad y31, va_re ad (M19.2 b21 x20.toNatClampNeg)]) (rest := []) ⟨hx, hb, hml, hown, hts⟩ (kX1_readLists l D ct ad Z G y48 H.size a y31 ((M19.2 b21 x20.toNatClampNeg)) y56 hc hk hy56) (cwV 2 hts gX1_readHeader_X1_readLists rfl rfl rfl (by decide +kernel) ⟨Nat.le_of_ble_eq_true rfl, Nat.le_of_ble_eq_true rfl⟩) ⟨fun a U g mk q => by obtain ⟨q0, q1, qP, qK, qD, qZ, qN⟩ := q; exact ⟨q0, q1, qP, va_K.moved (u := U) (U := U.calling g mk a) (Vm.Alike.refl U.vm) qK, qD, sF.moved (u := U) (U := U.calling g mk a) (Vm.Alike.refl U.vm) qZ, nF.same rfl qN⟩, va_recv hK hP (ci := 1) (q0 := a) rfl (wld_o ct ad G y48 hc hk (by decide)), fun U hU hW => ⟨rfl, by rw [hU], by rw [hU]; exact hP, va_K.moved hW.alike hK, hD.weaken (fun _ _ _ _ => trivial), by rw [hU]; exact ((hZ.kept hS.2.1).narrow hf9).moved hW.alike, hN.warm hW⟩⟩ rfl rfl hl.1 rfl (lv_room (Nat.le_of_ble_eq_true rfl)) dX1_readHeader_300 ⟨(Nat.zero_le _), (Nat.zero_le _)⟩) hS (fun q _ h => hf9 q h) hf9 (fun u t H locs ht hvm hw hB hz1 hk1 hS => ?_)
                      obtain ⟨hP, hK9, hD9⟩ := hB
                      rw [ht] at hP
                      have hD := hD9.weaken (fun _ q _ h => hf9 q.1 h)
                      obtain rfl := Option.some.inj hF
                      exact J50 _ _ _ hP hD hS (lv_sub hl [0, 1, 2, 3, 4, 5, 6, 7] rfl)
                  clear hF
                  have hF := hy47
                  clear hy47
                  refine lv_icmp_ne (tgt := 280) hx hb dX1_readHeader_247 (by decide) (fun c57 => ?_) (fun c57 => ?_)
                  · rw [if_neg c57] at hF
                    obtain rfl := Option.some.inj hF
                    exact J47 _ _ _ hP hD hS (lv_sub hl [0, 1, 2, 3, 4, 5, 6, 7] rfl)
                  · rw [if_pos c57] at hF
                    refine lv_aloadq_n hx hb dX1_readHeader_250 rfl (lv_at hl 4 rfl) ?_
                    refine lv_iconst (v := (3 : Int32)) hx hb dX1_readHeader_251 (by decide) ?_
                    refine W_st (st' := [.int (3 : Int32), .ref (ad b4)]) (by rw [va_some ho4]) ?_
                    obtain ⟨hvc, hF⟩ := chk_some hF
                    refine va_iald hx hb hK hP b4 1 (wld_i ct ad G M46 hc4 hk4) rfl hvc dX1_readHeader_252 ?_
                    obtain ⟨x58, ex58, hF⟩ := ltt_some hF
                    refine lv_topi (fun zx58 ezx58 => ?_)
                    obtain rfl : x58 = zx58 := ex58.trans ezx58.symm
                    obtain ⟨y59, hy59, hF⟩ := bnd_some hF
                    have J59 : ∀ (H : Heap) (locs : List Loc) (ls : Array Slot), va_P D classes (wld ct ad G y59) H → va_D A (wld ct ad G y59) → va_S A s.heap H locs → lv_has ls 8 [(7, va_re ad y31), (6, .int x23), (5, va_re ad (M19.2 b21 x20.toNatClampNeg)), (4, .int x11), (3, va_re ad (M.2 b2 0)), (0, .ref (ad a)), (1, .int p0), (2, .int p1)] → W p l e (headSpec wuX1_readHeader ({ frames := 5, cells := 0, slots := 0, locals := 131 })).room s m ([.ref (ad a), .int p0, .int p1] : List Value).toArray below meth c H locs 0 0 (MQ below (va_Qv (fun (_ : Unit) => True) (fun _ t => kE D ct ad G A y t) A) ([.ref (ad a), .int p0, .int p1] : List Value).toArray s 0 0 A) (F0 m 271 ls []) := by
                      intro H locs ls hP hD hS hl
                      refine lv_aloadq_n hx hb dX1_readHeader_271 rfl (lv_at hl 4 rfl) ?_
                      refine lv_iconst (v := (4 : Int32)) hx hb dX1_readHeader_272 (by decide) ?_
                      refine lv_aload_n hx hb dX1_readHeader_273 rfl (lv_at hl 5 rfl) ?_
                      refine lv_ldc (v := (65535 : Int32)) hx hb hown (hts (.constant RX1 220 (65535 : Int32)) (mu mw_1359)) dX1_readHeader_274 ?_
                      obtain ⟨y60, hy60, hF⟩ := bnd_some hF
                      have hf9 := wA_in hD hA9 hS
                      refine va_calli (va_runV (As := [.int (65535 : Int32)]) (rest := [.int (4 : Int32), va_re ad (M.2 b2 0)]) ⟨hx, hb, hml, hown, hts⟩ (kX1_unsigned l D ct ad Z G y59 H.size a ((65535 : Int32)) y60 hc hk hy60) (cwV 1 hts gX1_readHeader_X1_unsigned rfl rfl rfl (by decide +kernel) ⟨Nat.le_of_ble_eq_true rfl, Nat.le_of_ble_eq_true rfl⟩) ⟨fun a U g mk q => by obtain ⟨q0, q1, qP, qK, qD, qZ, qN⟩ := q; exact ⟨q0, q1, qP, va_K.moved (u := U) (U := U.calling g mk a) (Vm.Alike.refl U.vm) qK, qD, sF.moved (u := U) (U := U.calling g mk a) (Vm.Alike.refl U.vm) qZ, nF.same rfl qN⟩, va_recv hK hP (ci := 1) (q0 := a) rfl (wld_o ct ad G y59 hc hk (by decide)), fun U hU hW => ⟨rfl, by rw [hU], by rw [hU]; exact hP, va_K.moved hW.alike hK, hD.weaken (fun _ _ _ _ => trivial), by rw [hU]; exact ((hZ.kept hS.2.1).narrow hf9).moved hW.alike, hN.warm hW⟩⟩ rfl rfl hl.1 rfl (lv_room (by simp only [List.map, va_re_cat]; exact Nat.le_of_ble_eq_true rfl)) dX1_readHeader_276 ⟨(Nat.zero_le _), (Nat.zero_le _)⟩) hS (fun q _ h => hf9 q h) hf9 (fun r u t H locs ht hvm hw hB hz1 hk1 hS => ?_)
                      obtain ⟨hP, hK9, hD9⟩ := hB
                      rw [ht] at hP
                      try dsimp only at hw
                      subst hw
                      have hD := hD9.weaken (fun _ q _ h => hf9 q.1 h)
                      refine W_st (st' := [.int y60.2, .int (4 : Int32), .ref (ad b4)]) (by rw [va_some ho4]) ?_
                      obtain ⟨hvc, hF⟩ := chk_some hF
                      refine va_iast hx hb hK hP hD hS b4 1 (wld_i ct ad G y60.1 hc4 hk4) rfl hvc dX1_readHeader_279 (fun H locs hP hD hS => ?_)
                      obtain ⟨M61, eM61, hF⟩ := ltt_some hF
                      rw [set_i ct ad G y60.1 hc4 hk4, ← eM61] at hP hD
                      obtain rfl := Option.some.inj hF
                      exact J47 _ _ _ hP hD hS (lv_sub hl [0, 1, 2, 3, 4, 5, 6, 7] rfl)
                    clear hF
                    have hF := hy59
                    clear hy59
                    refine lv_if_eq (tgt := 271) hx hb dX1_readHeader_253 (by decide) (fun c62 => ?_) (fun c62 => ?_)
                    · rw [if_pos c62] at hF
                      obtain rfl := Option.some.inj hF
                      exact J59 _ _ _ hP hD hS (lv_sub hl [0, 1, 2, 3, 4, 5, 6, 7] rfl)
                    · rw [if_neg c62] at hF
                      refine lv_aload_n hx hb dX1_readHeader_256 rfl (lv_at hl 5 rfl) ?_
                      refine va_get (D := D) (ci := 1) (v := va_re ad (M46.2 a 0)) (C := RX1) (T := TX1) (N := 22) hx hb hts (mus hf_X1) hown hK hP a (wld_o ct ad G M46 hc hk (by decide)) rfl 0 (by decide) (hts (.fieldLink RX1 12 "VideoSuite$Decoder" "reader" "LVideoSuite$Reader;") (mu mw_640)) (fun _ h9 => h9) rfl dX1_readHeader_257 ?_
                      refine lv_iconst (v := (2 : Int32)) hx hb dX1_readHeader_260 (by decide) ?_
                      refine lv_aload_n hx hb dX1_readHeader_261 rfl (lv_at hl 5 rfl) ?_
                      refine va_get (D := D) (ci := 1) (v := va_re ad (M46.2 a 0)) (C := RX1) (T := TX1) (N := 22) hx hb hts (mus hf_X1) hown hK hP a (wld_o ct ad G M46 hc hk (by decide)) rfl 0 (by decide) (hts (.fieldLink RX1 12 "VideoSuite$Decoder" "reader" "LVideoSuite$Reader;") (mu mw_640)) (fun _ h9 => h9) rfl dX1_readHeader_262 ?_
                      obtain ⟨b63, ho63, hc63, hk63, hF⟩ := dr_some hF
                      refine W_st (st' := [.ref (ad b63), .int (2 : Int32), .ref (ad b63)]) (by rw [va_some ho63]) ?_
                      refine va_get (D := D) (ci := 5) (v := .int (M46.1 b63 4)) (C := RX5) (T := TX5) (N := 17) hx hb hts (mus hf_X5) hown hK hP b63 (wld_o ct ad G M46 hc63 hk63 (by decide)) rfl 4 (by decide) (hts (.fieldLink RX1 194 "VideoSuite$Reader" "begin" "I") (mu mw_293)) (fun _ h9 => h9) rfl dX1_readHeader_265 ?_
                      obtain ⟨x64, ex64, hF⟩ := ltt_some hF
                      refine lv_topi (fun zx64 ezx64 => ?_)
                      obtain rfl : x64 = zx64 := ex64.trans ezx64.symm
                      cases hF
                clear hF
                have hF := hy39
                clear hy39
                refine lv_icmp_lt (tgt := 219) hx hb dX1_readHeader_206 (by decide) (fun c65 => ?_) (fun c65 => ?_)
                · rw [if_pos c65] at hF
                  obtain rfl := Option.some.inj hF
                  exact J39 _ _ _ hP hD hS (lv_sub hl [0, 1, 2, 3, 4, 5, 6, 7] rfl)
                · rw [if_neg c65] at hF
                  refine lv_aload_n hx hb dX1_readHeader_209 rfl (lv_at hl 5 rfl) ?_
                  refine va_get (D := D) (ci := 1) (v := va_re ad (y33.2 a 0)) (C := RX1) (T := TX1) (N := 22) hx hb hts (mus hf_X1) hown hK hP a (wld_o ct ad G y33 hc hk (by decide)) rfl 0 (by decide) (hts (.fieldLink RX1 12 "VideoSuite$Decoder" "reader" "LVideoSuite$Reader;") (mu mw_640)) (fun _ h9 => h9) rfl dX1_readHeader_210 ?_
                  refine lv_iconst (v := (2 : Int32)) hx hb dX1_readHeader_213 (by decide) ?_
                  refine lv_iload hx hb dX1_readHeader_214 (lv_at hl 3 rfl) ?_
                  cases hF
              clear hF
              have hF := hy33
              clear hy33
              refine lv_if_lt (tgt := 209) hx hb dX1_readHeader_191 (by decide) (fun c66 => ?_) (fun c66 => ?_)
              · rw [if_pos c66] at hF
                refine lv_aload_n hx hb dX1_readHeader_209 rfl (lv_at hl 5 rfl) ?_
                refine va_get (D := D) (ci := 1) (v := va_re ad (y30.2 a 0)) (C := RX1) (T := TX1) (N := 22) hx hb hts (mus hf_X1) hown hK hP a (wld_o ct ad G y30 hc hk (by decide)) rfl 0 (by decide) (hts (.fieldLink RX1 12 "VideoSuite$Decoder" "reader" "LVideoSuite$Reader;") (mu mw_640)) (fun _ h9 => h9) rfl dX1_readHeader_210 ?_
                refine lv_iconst (v := (2 : Int32)) hx hb dX1_readHeader_213 (by decide) ?_
                refine lv_iload hx hb dX1_readHeader_214 (lv_at hl 3 rfl) ?_
                cases hF
              · rw [if_neg c66] at hF
                obtain rfl := Option.some.inj hF
                exact J33 _ _ _ hP hD hS (lv_sub hl [0, 1, 2, 3, 4, 5, 6, 7] rfl)
            clear hF
            have hF := hy31
            clear hy31
            refine lv_icmp_ne (tgt := 179) hx hb dX1_readHeader_169 (by decide) (fun c67 => ?_) (fun c67 => ?_)
            · rw [if_neg c67] at hF
              refine lv_aload_n hx hb dX1_readHeader_179 rfl (lv_at hl 4 rfl) ?_
              refine va_get (D := D) (ci := 1) (v := va_re ad (y30.2 a 5)) (C := RX1) (T := TX1) (N := 22) hx hb hts (mus hf_X1) hown hK hP a (wld_o ct ad G y30 hc hk (by decide)) rfl 5 (by decide) (hts (.fieldLink RX1 48 "VideoSuite$Decoder" "sequences" "[[I") (mu mw_647)) (fun _ h9 => h9) rfl dX1_readHeader_180 ?_
              refine lv_iload hx hb dX1_readHeader_183 (lv_at hl 0 rfl) ?_
              obtain ⟨b68, ho68, hc68, hk68, hF⟩ := dr_some hF
              refine W_st (st' := [.int x23, .ref (ad b68)]) (by rw [va_some ho68]) ?_
              obtain ⟨hvc, hF⟩ := chk_some hF
              refine ld_g hx hb hK hP hc68 hk68 hvc dX1_readHeader_185 ?_
              obtain rfl := Option.some.inj hF
              exact J31 _ _ _ hP hD hS (lv_sub hl [0, 1, 2, 3, 4, 5, 6] rfl)
            · rw [if_pos c67] at hF
              refine lv_aload_n hx hb dX1_readHeader_172 rfl (lv_at hl 4 rfl) ?_
              refine va_get (D := D) (ci := 1) (v := va_re ad (y30.2 a 7)) (C := RX1) (T := TX1) (N := 22) hx hb hts (mus hf_X1) hown hK hP a (wld_o ct ad G y30 hc hk (by decide)) rfl 7 (by decide) (hts (.fieldLink RX1 54 "VideoSuite$Decoder" "active" "[I") (mu mw_649)) (fun _ h9 => h9) rfl dX1_readHeader_173 ?_
              refine lv_goto (tgt := 186) hx hb dX1_readHeader_176 (by decide) ?_
              obtain rfl := Option.some.inj hF
              exact J31 _ _ _ hP hD hS (lv_sub hl [0, 1, 2, 3, 4, 5, 6] rfl)
          clear hF
          have hF := hy30
          clear hy30
          refine lv_icmp_ne (tgt := 167) hx hb dX1_readHeader_140 (by decide) (fun c69 => ?_) (fun c69 => ?_)
          · rw [if_neg c69] at hF
            obtain rfl := Option.some.inj hF
            exact J30 _ _ _ hP hD hS (lv_sub hl [0, 1, 2, 3, 4, 5, 6] rfl)
          · rw [if_pos c69] at hF
            refine lv_aload_n hx hb dX1_readHeader_143 rfl (lv_at hl 4 rfl) ?_
            refine va_get (D := D) (ci := 1) (v := .int (y29.1 a 8)) (C := RX1) (T := TX1) (N := 22) hx hb hts (mus hf_X1) hown hK hP a (wld_o ct ad G y29 hc hk (by decide)) rfl 8 (by decide) (hts (.fieldLink RX1 58 "VideoSuite$Decoder" "activeId" "I") (mu mw_650)) (fun _ h9 => h9) rfl dX1_readHeader_144 ?_
            obtain ⟨x70, ex70, hF⟩ := ltt_some hF
            refine lv_topi (fun zx70 ezx70 => ?_)
            obtain rfl : x70 = zx70 := ex70.trans ezx70.symm
            refine lv_iload hx hb dX1_readHeader_147 (lv_at hl 0 rfl) ?_
            obtain ⟨y71, hy71, hF⟩ := bnd_some hF
            have J71 : ∀ (H : Heap) (locs : List Loc) (ls : Array Slot), va_P D classes (wld ct ad G y71) H → va_D A (wld ct ad G y71) → va_S A s.heap H locs → lv_has ls 8 [(6, .int x23), (5, va_re ad (M19.2 b21 x20.toNatClampNeg)), (4, .int x11), (3, va_re ad (M.2 b2 0)), (0, .ref (ad a)), (1, .int p0), (2, .int p1)] → W p l e (headSpec wuX1_readHeader ({ frames := 5, cells := 0, slots := 0, locals := 131 })).room s m ([.ref (ad a), .int p0, .int p1] : List Value).toArray below meth c H locs 0 0 (MQ below (va_Qv (fun (_ : Unit) => True) (fun _ t => kE D ct ad G A y t) A) ([.ref (ad a), .int p0, .int p1] : List Value).toArray s 0 0 A) (F0 m 167 ls []) := by
              intro H locs ls hP hD hS hl
              obtain rfl := Option.some.inj hF
              exact J30 _ _ _ hP hD hS (lv_sub hl [0, 1, 2, 3, 4, 5, 6] rfl)
            clear hF
            have hF := hy71
            clear hy71
            refine lv_icmp_eq (tgt := 167) hx hb dX1_readHeader_149 (by decide) (fun c72 => ?_) (fun c72 => ?_)
            · rw [if_pos c72] at hF
              obtain rfl := Option.some.inj hF
              exact J71 _ _ _ hP hD hS (lv_sub hl [0, 1, 2, 3, 4, 5, 6] rfl)
            · rw [if_neg c72] at hF
              refine lv_aload_n hx hb dX1_readHeader_152 rfl (lv_at hl 4 rfl) ?_
              refine va_get (D := D) (ci := 1) (v := va_re ad (y29.2 a 0)) (C := RX1) (T := TX1) (N := 22) hx hb hts (mus hf_X1) hown hK hP a (wld_o ct ad G y29 hc hk (by decide)) rfl 0 (by decide) (hts (.fieldLink RX1 12 "VideoSuite$Decoder" "reader" "LVideoSuite$Reader;") (mu mw_640)) (fun _ h9 => h9) rfl dX1_readHeader_153 ?_
              refine lv_iconst (v := (3 : Int32)) hx hb dX1_readHeader_156 (by decide) ?_
              refine lv_aload_n hx hb dX1_readHeader_157 rfl (lv_at hl 4 rfl) ?_
              refine va_get (D := D) (ci := 1) (v := va_re ad (y29.2 a 0)) (C := RX1) (T := TX1) (N := 22) hx hb hts (mus hf_X1) hown hK hP a (wld_o ct ad G y29 hc hk (by decide)) rfl 0 (by decide) (hts (.fieldLink RX1 12 "VideoSuite$Decoder" "reader" "LVideoSuite$Reader;") (mu mw_640)) (fun _ h9 => h9) rfl dX1_readHeader_158 ?_
              obtain ⟨b73, ho73, hc73, hk73, hF⟩ := dr_some hF
              refine W_st (st' := [.ref (ad b73), .int (3 : Int32), .ref (ad b73)]) (by rw [va_some ho73]) ?_
              refine va_get (D := D) (ci := 5) (v := .int (y29.1 b73 4)) (C := RX5) (T := TX5) (N := 17) hx hb hts (mus hf_X5) hown hK hP b73 (wld_o ct ad G y29 hc73 hk73 (by decide)) rfl 4 (by decide) (hts (.fieldLink RX1 194 "VideoSuite$Reader" "begin" "I") (mu mw_293)) (fun _ h9 => h9) rfl dX1_readHeader_161 ?_
              obtain ⟨x74, ex74, hF⟩ := ltt_some hF
              refine lv_topi (fun zx74 ezx74 => ?_)
              obtain rfl : x74 = zx74 := ex74.trans ezx74.symm
              cases hF
        clear hF
        have hF := hy29
        clear hy29
        refine lv_if_eq (tgt := 152) hx hb dX1_readHeader_135 (by decide) (fun c75 => ?_) (fun c75 => ?_)
        · rw [if_pos c75] at hF
          refine lv_aload_n hx hb dX1_readHeader_152 rfl (lv_at hl 4 rfl) ?_
          refine va_get (D := D) (ci := 1) (v := va_re ad (y25.2 a 0)) (C := RX1) (T := TX1) (N := 22) hx hb hts (mus hf_X1) hown hK hP a (wld_o ct ad G y25 hc hk (by decide)) rfl 0 (by decide) (hts (.fieldLink RX1 12 "VideoSuite$Decoder" "reader" "LVideoSuite$Reader;") (mu mw_640)) (fun _ h9 => h9) rfl dX1_readHeader_153 ?_
          refine lv_iconst (v := (3 : Int32)) hx hb dX1_readHeader_156 (by decide) ?_
          refine lv_aload_n hx hb dX1_readHeader_157 rfl (lv_at hl 4 rfl) ?_
          refine va_get (D := D) (ci := 1) (v := va_re ad (y25.2 a 0)) (C := RX1) (T := TX1) (N := 22) hx hb hts (mus hf_X1) hown hK hP a (wld_o ct ad G y25 hc hk (by decide)) rfl 0 (by decide) (hts (.fieldLink RX1 12 "VideoSuite$Decoder" "reader" "LVideoSuite$Reader;") (mu mw_640)) (fun _ h9 => h9) rfl dX1_readHeader_158 ?_
          obtain ⟨b76, ho76, hc76, hk76, hF⟩ := dr_some hF
          refine W_st (st' := [.ref (ad b76), .int (3 : Int32), .ref (ad b76)]) (by rw [va_some ho76]) ?_
          refine va_get (D := D) (ci := 5) (v := .int (y25.1 b76 4)) (C := RX5) (T := TX5) (N := 17) hx hb hts (mus hf_X5) hown hK hP b76 (wld_o ct ad G y25 hc76 hk76 (by decide)) rfl 4 (by decide) (hts (.fieldLink RX1 194 "VideoSuite$Reader" "begin" "I") (mu mw_293)) (fun _ h9 => h9) rfl dX1_readHeader_161 ?_
          obtain ⟨x77, ex77, hF⟩ := ltt_some hF
          refine lv_topi (fun zx77 ezx77 => ?_)
          obtain rfl : x77 = zx77 := ex77.trans ezx77.symm
          cases hF
        · rw [if_neg c75] at hF
          obtain rfl := Option.some.inj hF
          exact J29 _ _ _ hP hD hS (lv_sub hl [0, 1, 2, 3, 4, 5, 6] rfl)
      clear hF
      have hF := hy25
      clear hy25
      refine lv_if_eq (tgt := 152) hx hb dX1_readHeader_122 (by decide) (fun c78 => ?_) (fun c78 => ?_)
      · rw [if_pos c78] at hF
        refine lv_aload_n hx hb dX1_readHeader_152 rfl (lv_at hl 4 rfl) ?_
        refine va_get (D := D) (ci := 1) (v := va_re ad (M19.2 a 0)) (C := RX1) (T := TX1) (N := 22) hx hb hts (mus hf_X1) hown hK hP a (wld_o ct ad G M19 hc hk (by decide)) rfl 0 (by decide) (hts (.fieldLink RX1 12 "VideoSuite$Decoder" "reader" "LVideoSuite$Reader;") (mu mw_640)) (fun _ h9 => h9) rfl dX1_readHeader_153 ?_
        refine lv_iconst (v := (3 : Int32)) hx hb dX1_readHeader_156 (by decide) ?_
        refine lv_aload_n hx hb dX1_readHeader_157 rfl (lv_at hl 4 rfl) ?_
        refine va_get (D := D) (ci := 1) (v := va_re ad (M19.2 a 0)) (C := RX1) (T := TX1) (N := 22) hx hb hts (mus hf_X1) hown hK hP a (wld_o ct ad G M19 hc hk (by decide)) rfl 0 (by decide) (hts (.fieldLink RX1 12 "VideoSuite$Decoder" "reader" "LVideoSuite$Reader;") (mu mw_640)) (fun _ h9 => h9) rfl dX1_readHeader_158 ?_
        obtain ⟨b79, ho79, hc79, hk79, hF⟩ := dr_some hF
        refine W_st (st' := [.ref (ad b79), .int (3 : Int32), .ref (ad b79)]) (by rw [va_some ho79]) ?_
        refine va_get (D := D) (ci := 5) (v := .int (M19.1 b79 4)) (C := RX5) (T := TX5) (N := 17) hx hb hts (mus hf_X5) hown hK hP b79 (wld_o ct ad G M19 hc79 hk79 (by decide)) rfl 4 (by decide) (hts (.fieldLink RX1 194 "VideoSuite$Reader" "begin" "I") (mu mw_293)) (fun _ h9 => h9) rfl dX1_readHeader_161 ?_
        obtain ⟨x80, ex80, hF⟩ := ltt_some hF
        refine lv_topi (fun zx80 ezx80 => ?_)
        obtain rfl : x80 = zx80 := ex80.trans ezx80.symm
        cases hF
      · rw [if_neg c78] at hF
        obtain rfl := Option.some.inj hF
        exact J25 _ _ _ hP hD hS (lv_sub hl [0, 1, 2, 3, 4, 5, 6] rfl)
    clear hF
    have hF := hy17
    clear hy17
    refine lv_icmp_ne (tgt := 93) hx hb dX1_readHeader_68 (by decide) (fun c81 => ?_) (fun c81 => ?_)
    · rw [if_neg c81] at hF
      obtain rfl := Option.some.inj hF
      exact J17 _ _ _ hP hD hS (lv_sub hl [0, 1, 2, 3, 4] rfl)
    · rw [if_pos c81] at hF
      refine lv_aloadq_n hx hb dX1_readHeader_71 rfl (lv_at hl 1 rfl) ?_
      refine lv_iconst (v := (1 : Int32)) hx hb dX1_readHeader_72 (by decide) ?_
      refine W_st (st' := [.int (1 : Int32), .ref (ad b4)]) (by rw [va_some ho4]) ?_
      obtain ⟨hvc, hF⟩ := chk_some hF
      refine va_iald hx hb hK hP b4 1 (wld_i ct ad G y16 hc4 hk4) rfl hvc dX1_readHeader_73 ?_
      obtain ⟨x82, ex82, hF⟩ := ltt_some hF
      refine lv_topi (fun zx82 ezx82 => ?_)
      obtain rfl : x82 = zx82 := ex82.trans ezx82.symm
      refine lv_iconst (v := (2 : Int32)) hx hb dX1_readHeader_74 (by decide) ?_
      obtain ⟨y83, hy83, hF⟩ := bnd_some hF
      have J83 : ∀ (H : Heap) (locs : List Loc) (ls : Array Slot), va_P D classes (wld ct ad G y83) H → va_D A (wld ct ad G y83) → va_S A s.heap H locs → lv_has ls 8 [(4, .int x11), (3, va_re ad (M.2 b2 0)), (0, .ref (ad a)), (1, .int p0), (2, .int p1)] → W p l e (headSpec wuX1_readHeader ({ frames := 5, cells := 0, slots := 0, locals := 131 })).room s m ([.ref (ad a), .int p0, .int p1] : List Value).toArray below meth c H locs 0 0 (MQ below (va_Qv (fun (_ : Unit) => True) (fun _ t => kE D ct ad G A y t) A) ([.ref (ad a), .int p0, .int p1] : List Value).toArray s 0 0 A) (F0 m 93 ls []) := by
        intro H locs ls hP hD hS hl
        obtain rfl := Option.some.inj hF
        exact J17 _ _ _ hP hD hS (lv_sub hl [0, 1, 2, 3, 4] rfl)
      clear hF
      have hF := hy83
      clear hy83
      refine lv_icmp_eq (tgt := 93) hx hb dX1_readHeader_75 (by decide) (fun c84 => ?_) (fun c84 => ?_)
      · rw [if_pos c84] at hF
        obtain rfl := Option.some.inj hF
        exact J83 _ _ _ hP hD hS (lv_sub hl [0, 1, 2, 3, 4] rfl)
      · rw [if_neg c84] at hF
        refine lv_aload_n hx hb dX1_readHeader_78 rfl (lv_at hl 2 rfl) ?_
        refine va_get (D := D) (ci := 1) (v := va_re ad (y16.2 a 0)) (C := RX1) (T := TX1) (N := 22) hx hb hts (mus hf_X1) hown hK hP a (wld_o ct ad G y16 hc hk (by decide)) rfl 0 (by decide) (hts (.fieldLink RX1 12 "VideoSuite$Decoder" "reader" "LVideoSuite$Reader;") (mu mw_640)) (fun _ h9 => h9) rfl dX1_readHeader_79 ?_
        refine lv_iconst (v := (2 : Int32)) hx hb dX1_readHeader_82 (by decide) ?_
        refine lv_aload_n hx hb dX1_readHeader_83 rfl (lv_at hl 2 rfl) ?_
        refine va_get (D := D) (ci := 1) (v := va_re ad (y16.2 a 0)) (C := RX1) (T := TX1) (N := 22) hx hb hts (mus hf_X1) hown hK hP a (wld_o ct ad G y16 hc hk (by decide)) rfl 0 (by decide) (hts (.fieldLink RX1 12 "VideoSuite$Decoder" "reader" "LVideoSuite$Reader;") (mu mw_640)) (fun _ h9 => h9) rfl dX1_readHeader_84 ?_
        obtain ⟨b85, ho85, hc85, hk85, hF⟩ := dr_some hF
        refine W_st (st' := [.ref (ad b85), .int (2 : Int32), .ref (ad b85)]) (by rw [va_some ho85]) ?_
        refine va_get (D := D) (ci := 5) (v := .int (y16.1 b85 4)) (C := RX5) (T := TX5) (N := 17) hx hb hts (mus hf_X5) hown hK hP b85 (wld_o ct ad G y16 hc85 hk85 (by decide)) rfl 4 (by decide) (hts (.fieldLink RX1 194 "VideoSuite$Reader" "begin" "I") (mu mw_293)) (fun _ h9 => h9) rfl dX1_readHeader_87 ?_
        obtain ⟨x86, ex86, hF⟩ := ltt_some hF
        refine lv_topi (fun zx86 ezx86 => ?_)
        obtain rfl : x86 = zx86 := ex86.trans ezx86.symm
        cases hF
  clear hF
  have hF := hy16
  clear hy16
  refine lv_icmp_gt (tgt := 78) hx hb dX1_readHeader_63 (by decide) (fun c87 => ?_) (fun c87 => ?_)
  · rw [if_pos c87] at hF
    refine lv_aload_n hx hb dX1_readHeader_78 rfl (lv_at hl 2 rfl) ?_
    refine va_get (D := D) (ci := 1) (v := va_re ad (M14.2 a 0)) (C := RX1) (T := TX1) (N := 22) hx hb hts (mus hf_X1) hown hK hP a (wld_o ct ad G M14 hc hk (by decide)) rfl 0 (by decide) (hts (.fieldLink RX1 12 "VideoSuite$Decoder" "reader" "LVideoSuite$Reader;") (mu mw_640)) (fun _ h9 => h9) rfl dX1_readHeader_79 ?_
    refine lv_iconst (v := (2 : Int32)) hx hb dX1_readHeader_82 (by decide) ?_
    refine lv_aload_n hx hb dX1_readHeader_83 rfl (lv_at hl 2 rfl) ?_
    refine va_get (D := D) (ci := 1) (v := va_re ad (M14.2 a 0)) (C := RX1) (T := TX1) (N := 22) hx hb hts (mus hf_X1) hown hK hP a (wld_o ct ad G M14 hc hk (by decide)) rfl 0 (by decide) (hts (.fieldLink RX1 12 "VideoSuite$Decoder" "reader" "LVideoSuite$Reader;") (mu mw_640)) (fun _ h9 => h9) rfl dX1_readHeader_84 ?_
    obtain ⟨b88, ho88, hc88, hk88, hF⟩ := dr_some hF
    refine W_st (st' := [.ref (ad b88), .int (2 : Int32), .ref (ad b88)]) (by rw [va_some ho88]) ?_
    refine va_get (D := D) (ci := 5) (v := .int (M14.1 b88 4)) (C := RX5) (T := TX5) (N := 17) hx hb hts (mus hf_X5) hown hK hP b88 (wld_o ct ad G M14 hc88 hk88 (by decide)) rfl 4 (by decide) (hts (.fieldLink RX1 194 "VideoSuite$Reader" "begin" "I") (mu mw_293)) (fun _ h9 => h9) rfl dX1_readHeader_87 ?_
    obtain ⟨x89, ex89, hF⟩ := ltt_some hF
    refine lv_topi (fun zx89 ezx89 => ?_)
    obtain rfl : x89 = zx89 := ex89.trans ezx89.symm
    cases hF
  · rw [if_neg c87] at hF
    obtain rfl := Option.some.inj hF
    exact J16 _ _ _ hP hD hS (lv_sub hl [0, 1, 2, 3, 4] rfl)
set_option maxRecDepth 20000 in
theorem gX1_takeUnit_X8_loadPayload : GoodIn wuX1_takeUnit (wsV RX1 116 RX8 yX8_loadPayload wuX8_loadPayload) := gu_V mw_1305 mw_1306 mw_1307 mw_167 mw_1308
set_option maxRecDepth 20000 in
set_option maxRecDepth 20000 in
theorem gX1_takeUnit_X5_load : GoodIn wuX1_takeUnit (wsV RX1 122 RX5 yX5_load wuX5_load) := gu_V mw_1309 mw_1310 mw_1311 mw_169 mw_1312
set_option maxRecDepth 20000 in
set_option maxRecDepth 20000 in
theorem gX1_takeUnit_X8_byteAt : GoodIn wuX1_takeUnit (wsV RX1 126 RX8 yX8_byteAt wuX8_byteAt) := gu_V mw_1317 mw_1318 mw_1319 mw_167 mw_1320
set_option maxRecDepth 20000 in
set_option maxRecDepth 20000 in
theorem gX1_takeUnit_X1_readHeader : GoodIn wuX1_takeUnit (wsV RX1 133 RX1 yX1_readHeader wuX1_readHeader) := gu_V mw_1321 mw_1323 mw_32 mw_168 mw_1324
set_option maxRecDepth 20000 in
set_option maxRecDepth 20000 in
theorem gX1_takeUnit_X1_beginSlice : GoodIn wuX1_takeUnit (wsV RX1 150 RX1 yX1_beginSlice wuX1_beginSlice) := gu_V mw_1804 mw_1806 mw_46 mw_168 mw_1807
set_option maxRecDepth 20000 in
set_option maxRecDepth 20000 in
theorem gX1_takeUnit_X1_readData : GoodIn wuX1_takeUnit (wsV RX1 153 RX1 yX1_readData wuX1_readData) := gu_V mw_1849 mw_1851 mw_50 mw_168 mw_1852
set_option maxRecDepth 20000 in
set_option maxRecDepth 20000 in
theorem gX1_takeUnit_X1_endPicture : GoodIn wuX1_takeUnit (wsV RX1 141 RX1 yX1_endPicture wuX1_endPicture) := gu_V mw_1400 mw_903 mw_904 mw_168 mw_905
set_option maxRecDepth 20000 in
set_option maxRecDepth 20000 in
theorem gX1_takeUnit_X1_bridge : GoodIn wuX1_takeUnit (wsV RX1 144 RX1 yX1_bridge wuX1_bridge) := gu_V mw_1401 mw_1403 mw_42 mw_168 mw_1404
set_option maxRecDepth 20000 in
set_option maxRecDepth 20000 in
theorem gX1_takeUnit_X1_beginPicture : GoodIn wuX1_takeUnit (wsV RX1 147 RX1 yX1_beginPicture wuX1_beginPicture) := gu_V mw_1533 mw_1535 mw_44 mw_168 mw_1536
set_option maxRecDepth 20000 in
set_option maxRecDepth 20000 in
theorem gX1_takeUnit_X3_beginsBehind : GoodIn wuX1_takeUnit (wsV RX1 137 RX3 yX3_beginsBehind wuX3_beginsBehind) := gu_V mw_1396 mw_1397 mw_1398 mw_174 mw_1399
set_option maxRecDepth 20000 in
set_option maxRecDepth 20000 in
theorem gX1_takeUnit_X1_readParameters : GoodIn wuX1_takeUnit (wsV RX1 159 RX1 yX1_readParameters wuX1_readParameters) := gu_V mw_2281 mw_2283 mw_109 mw_168 mw_2284
set_option maxRecDepth 20000 in
set_option maxRecDepth 20000 in
theorem gX1_takeUnit_X1_readSequence : GoodIn wuX1_takeUnit (wsV RX1 156 RX1 yX1_readSequence wuX1_readSequence) := gu_V mw_2269 mw_2271 mw_107 mw_168 mw_2272
set_option maxRecDepth 20000 in
theorem dX1_takeUnit_0 : decode cX1_takeUnit 0 = .ok (.aload_n 1, 1) := by decide +kernel
theorem dX1_takeUnit_1 : decode cX1_takeUnit 1 = .ok (.iload_n 2, 1) := by decide +kernel
theorem dX1_takeUnit_2 : decode cX1_takeUnit 2 = .ok (.invokevirtual 116, 3) := by decide +kernel
theorem dX1_takeUnit_5 : decode cX1_takeUnit 5 = .ok (.aload_n 0, 1) := by decide +kernel
theorem dX1_takeUnit_6 : decode cX1_takeUnit 6 = .ok (.getfield 12, 3) := by decide +kernel
theorem dX1_takeUnit_9 : decode cX1_takeUnit 9 = .ok (.aload_n 1, 1) := by decide +kernel
theorem dX1_takeUnit_10 : decode cX1_takeUnit 10 = .ok (.invokevirtual 122, 3) := by decide +kernel
theorem dX1_takeUnit_13 : decode cX1_takeUnit 13 = .ok (.aload_n 1, 1) := by decide +kernel
theorem dX1_takeUnit_14 : decode cX1_takeUnit 14 = .ok (.iload_n 2, 1) := by decide +kernel
theorem dX1_takeUnit_15 : decode cX1_takeUnit 15 = .ok (.iconst 0, 1) := by decide +kernel
theorem dX1_takeUnit_16 : decode cX1_takeUnit 16 = .ok (.invokevirtual 126, 3) := by decide +kernel
theorem dX1_takeUnit_19 : decode cX1_takeUnit 19 = .ok (.istore_n 3, 1) := by decide +kernel
theorem dX1_takeUnit_20 : decode cX1_takeUnit 20 = .ok (.iload_n 3, 1) := by decide +kernel
theorem dX1_takeUnit_21 : decode cX1_takeUnit 21 = .ok (.bipush 127, 2) := by decide +kernel
theorem dX1_takeUnit_23 : decode cX1_takeUnit 23 = .ok (.if_icmp .le 7, 3) := by decide +kernel
theorem dX1_takeUnit_26 : decode cX1_takeUnit 26 = .ok (.iconst 0, 1) := by decide +kernel
theorem dX1_takeUnit_27 : decode cX1_takeUnit 27 = .ok (.goto 7, 3) := by decide +kernel
theorem dX1_takeUnit_30 : decode cX1_takeUnit 30 = .ok (.iload_n 3, 1) := by decide +kernel
theorem dX1_takeUnit_31 : decode cX1_takeUnit 31 = .ok (.bipush 31, 2) := by decide +kernel
theorem dX1_takeUnit_33 : decode cX1_takeUnit 33 = .ok (.iand, 1) := by decide +kernel
theorem dX1_takeUnit_34 : decode cX1_takeUnit 34 = .ok (.istore 4, 2) := by decide +kernel
theorem dX1_takeUnit_36 : decode cX1_takeUnit 36 = .ok (.aload_n 0, 1) := by decide +kernel
theorem dX1_takeUnit_37 : decode cX1_takeUnit 37 = .ok (.iconst (-1), 1) := by decide +kernel
theorem dX1_takeUnit_38 : decode cX1_takeUnit 38 = .ok (.putfield 130, 3) := by decide +kernel
theorem dX1_takeUnit_41 : decode cX1_takeUnit 41 = .ok (.iload 4, 2) := by decide +kernel
theorem dX1_takeUnit_43 : decode cX1_takeUnit 43 = .ok (.iconst 1, 1) := by decide +kernel
theorem dX1_takeUnit_44 : decode cX1_takeUnit 44 = .ok (.if_icmp .eq 9, 3) := by decide +kernel
theorem dX1_takeUnit_47 : decode cX1_takeUnit 47 = .ok (.iload 4, 2) := by decide +kernel
theorem dX1_takeUnit_49 : decode cX1_takeUnit 49 = .ok (.iconst 5, 1) := by decide +kernel
theorem dX1_takeUnit_50 : decode cX1_takeUnit 50 = .ok (.if_icmp .ne 58, 3) := by decide +kernel
theorem dX1_takeUnit_53 : decode cX1_takeUnit 53 = .ok (.aload_n 0, 1) := by decide +kernel
theorem dX1_takeUnit_54 : decode cX1_takeUnit 54 = .ok (.iload 4, 2) := by decide +kernel
theorem dX1_takeUnit_56 : decode cX1_takeUnit 56 = .ok (.iload_n 3, 1) := by decide +kernel
theorem dX1_takeUnit_57 : decode cX1_takeUnit 57 = .ok (.iconst 5, 1) := by decide +kernel
theorem dX1_takeUnit_58 : decode cX1_takeUnit 58 = .ok (.ishr, 1) := by decide +kernel
theorem dX1_takeUnit_59 : decode cX1_takeUnit 59 = .ok (.iconst 3, 1) := by decide +kernel
theorem dX1_takeUnit_60 : decode cX1_takeUnit 60 = .ok (.iand, 1) := by decide +kernel
theorem dX1_takeUnit_61 : decode cX1_takeUnit 61 = .ok (.invokevirtual 133, 3) := by decide +kernel
theorem dX1_takeUnit_64 : decode cX1_takeUnit 64 = .ok (.aload_n 0, 1) := by decide +kernel
theorem dX1_takeUnit_65 : decode cX1_takeUnit 65 = .ok (.getfield 109, 3) := by decide +kernel
theorem dX1_takeUnit_68 : decode cX1_takeUnit 68 = .ok (.ifCond .eq 17, 3) := by decide +kernel
theorem dX1_takeUnit_71 : decode cX1_takeUnit 71 = .ok (.aload_n 0, 1) := by decide +kernel
theorem dX1_takeUnit_72 : decode cX1_takeUnit 72 = .ok (.getfield 68, 3) := by decide +kernel
theorem dX1_takeUnit_75 : decode cX1_takeUnit 75 = .ok (.aload_n 0, 1) := by decide +kernel
theorem dX1_takeUnit_76 : decode cX1_takeUnit 76 = .ok (.getfield 72, 3) := by decide +kernel
theorem dX1_takeUnit_79 : decode cX1_takeUnit 79 = .ok (.invokevirtual 137, 3) := by decide +kernel
theorem dX1_takeUnit_82 : decode cX1_takeUnit 82 = .ok (.ifCond .eq 15, 3) := by decide +kernel
theorem dX1_takeUnit_85 : decode cX1_takeUnit 85 = .ok (.aload_n 0, 1) := by decide +kernel
theorem dX1_takeUnit_86 : decode cX1_takeUnit 86 = .ok (.invokevirtual 141, 3) := by decide +kernel
theorem dX1_takeUnit_89 : decode cX1_takeUnit 89 = .ok (.aload_n 0, 1) := by decide +kernel
theorem dX1_takeUnit_90 : decode cX1_takeUnit 90 = .ok (.invokevirtual 144, 3) := by decide +kernel
theorem dX1_takeUnit_93 : decode cX1_takeUnit 93 = .ok (.aload_n 0, 1) := by decide +kernel
theorem dX1_takeUnit_94 : decode cX1_takeUnit 94 = .ok (.invokevirtual 147, 3) := by decide +kernel
theorem dX1_takeUnit_97 : decode cX1_takeUnit 97 = .ok (.aload_n 0, 1) := by decide +kernel
theorem dX1_takeUnit_98 : decode cX1_takeUnit 98 = .ok (.invokevirtual 150, 3) := by decide +kernel
theorem dX1_takeUnit_101 : decode cX1_takeUnit 101 = .ok (.aload_n 0, 1) := by decide +kernel
theorem dX1_takeUnit_102 : decode cX1_takeUnit 102 = .ok (.invokevirtual 153, 3) := by decide +kernel
theorem dX1_takeUnit_105 : decode cX1_takeUnit 105 = .ok (.goto 36, 3) := by decide +kernel
theorem dX1_takeUnit_108 : decode cX1_takeUnit 108 = .ok (.iload 4, 2) := by decide +kernel
theorem dX1_takeUnit_110 : decode cX1_takeUnit 110 = .ok (.bipush 7, 2) := by decide +kernel
theorem dX1_takeUnit_112 : decode cX1_takeUnit 112 = .ok (.if_icmp .ne 14, 3) := by decide +kernel
theorem dX1_takeUnit_115 : decode cX1_takeUnit 115 = .ok (.aload_n 0, 1) := by decide +kernel
theorem dX1_takeUnit_116 : decode cX1_takeUnit 116 = .ok (.invokevirtual 141, 3) := by decide +kernel
theorem dX1_takeUnit_119 : decode cX1_takeUnit 119 = .ok (.aload_n 0, 1) := by decide +kernel
theorem dX1_takeUnit_120 : decode cX1_takeUnit 120 = .ok (.invokevirtual 156, 3) := by decide +kernel
theorem dX1_takeUnit_123 : decode cX1_takeUnit 123 = .ok (.goto 18, 3) := by decide +kernel
theorem dX1_takeUnit_126 : decode cX1_takeUnit 126 = .ok (.iload 4, 2) := by decide +kernel
theorem dX1_takeUnit_128 : decode cX1_takeUnit 128 = .ok (.bipush 8, 2) := by decide +kernel
theorem dX1_takeUnit_130 : decode cX1_takeUnit 130 = .ok (.if_icmp .ne 11, 3) := by decide +kernel
theorem dX1_takeUnit_133 : decode cX1_takeUnit 133 = .ok (.aload_n 0, 1) := by decide +kernel
theorem dX1_takeUnit_134 : decode cX1_takeUnit 134 = .ok (.invokevirtual 141, 3) := by decide +kernel
theorem dX1_takeUnit_137 : decode cX1_takeUnit 137 = .ok (.aload_n 0, 1) := by decide +kernel
theorem dX1_takeUnit_138 : decode cX1_takeUnit 138 = .ok (.invokevirtual 159, 3) := by decide +kernel
theorem dX1_takeUnit_141 : decode cX1_takeUnit 141 = .ok (.goto 10, 3) := by decide +kernel
theorem dX1_takeUnit_144 : decode cX1_takeUnit 144 = .ok (.astore 5, 2) := by decide +kernel
theorem dX1_takeUnit_146 : decode cX1_takeUnit 146 = .ok (.aload_n 0, 1) := by decide +kernel
theorem dX1_takeUnit_147 : decode cX1_takeUnit 147 = .ok (.iload_n 2, 1) := by decide +kernel
theorem dX1_takeUnit_148 : decode cX1_takeUnit 148 = .ok (.invokevirtual 164, 3) := by decide +kernel
theorem dX1_takeUnit_151 : decode cX1_takeUnit 151 = .ok (.aload_n 1, 1) := by decide +kernel
theorem dX1_takeUnit_152 : decode cX1_takeUnit 152 = .ok (.iload_n 2, 1) := by decide +kernel
theorem dX1_takeUnit_153 : decode cX1_takeUnit 153 = .ok (.iconst 1, 1) := by decide +kernel
theorem dX1_takeUnit_154 : decode cX1_takeUnit 154 = .ok (.iadd, 1) := by decide +kernel
theorem dX1_takeUnit_155 : decode cX1_takeUnit 155 = .ok (.putfield 167, 3) := by decide +kernel
theorem dX1_takeUnit_158 : decode cX1_takeUnit 158 = .ok (.return_, 1) := by decide +kernel
noncomputable def FX1_takeUnit (G : GG) (M : DD) (a : Nat) (p0 : Option Nat) (p1 : Int32) : Option (NN × DD) :=
  dr (xt G []) 8 p0 fun b2 =>
  bnd (FX8_loadPayload (xt G []) M b2 p1) fun y3 =>
  dr (xt G []) 5 ((y3.2 a 0)) fun b4 =>
  bnd (FX5_load (xt G []) y3 b4 p0) fun y5 =>
  bnd (FX8_byteAt (xt G []) y5 b2 p1 ((0 : Int32))) fun y6 =>
  bnd (if y6.2 ≤ ((127 : Int32)) then (ltt ((y6.2 &&& ((31 : Int32)))) fun x142 =>
  some (x142)) else
  (some ((0 : Int32)))) fun (y7 : Int32) =>
  ltt (uI y6.1 a 21 ((-1 : Int32))) fun M8 =>
  bnd (if y7 = ((1 : Int32)) then (ltt ((y6.2 >>> (((5 : Int32)) &&& 31))) fun x17 =>
  ltt ((x17 &&& ((3 : Int32)))) fun x18 =>
  bnd (FX1_readHeader (xt G []) M8 a y7 x18) fun y19 =>
  ltt (y19.1 a 16) fun x20 =>
  bnd (if x20 = ((0 : Int32)) then (chk (okd (xt G []) p0 = true) <|
  bnd (FX1_endPicture (xt G []) y19 a) fun y29 =>
  app y29.1 <|
  ltt ([] ++ y29.1) fun L32 =>
  bnd (FX1_bridge (xt G L32) y29.2 a) fun y35 =>
  chk (okd (xt G L32) p0 = true) <|
  bnd (FX1_beginPicture (xt G L32) y35 a) fun y36 =>
  app y36.1 <|
  ltt (L32 ++ y36.1) fun L39 =>
  some ([], y36.2)) else
  (dr (xt G []) 3 ((y19.2 a 10)) fun b42 =>
  bnd (FX3_beginsBehind (xt G []) y19 b42 ((y19.2 a 11))) fun y43 =>
  bnd (if y43.2 = ((0 : Int32)) then (some ([], y43.1)) else
  (chk (okd (xt G []) p0 = true) <|
  bnd (FX1_endPicture (xt G []) y43.1 a) fun y50 =>
  app y50.1 <|
  ltt ([] ++ y50.1) fun L53 =>
  bnd (FX1_bridge (xt G L53) y50.2 a) fun y56 =>
  chk (okd (xt G L53) p0 = true) <|
  bnd (FX1_beginPicture (xt G L53) y56 a) fun y57 =>
  app y57.1 <|
  ltt (L53 ++ y57.1) fun L60 =>
  some ([], y57.2))) fun (y44 : NN × DD) =>
  app y44.1 <|
  ltt ([] ++ y44.1) fun L46 =>
  some ([], y44.2))) fun (y21 : NN × DD) =>
  app y21.1 <|
  ltt ([] ++ y21.1) fun L23 =>
  bnd (FX1_beginSlice (xt G L23) y21.2 a) fun y25 =>
  bnd (FX1_readData (xt G L23) y25 a) fun y26 =>
  some ([], y26)) else
  (bnd (if y7 = ((5 : Int32)) then (ltt ((y6.2 >>> (((5 : Int32)) &&& 31))) fun x95 =>
  ltt ((x95 &&& ((3 : Int32)))) fun x96 =>
  bnd (FX1_readHeader (xt G []) M8 a y7 x96) fun y97 =>
  ltt (y97.1 a 16) fun x98 =>
  bnd (if x98 = ((0 : Int32)) then (chk (okd (xt G []) p0 = true) <|
  bnd (FX1_endPicture (xt G []) y97 a) fun y107 =>
  app y107.1 <|
  ltt ([] ++ y107.1) fun L110 =>
  bnd (FX1_bridge (xt G L110) y107.2 a) fun y113 =>
  chk (okd (xt G L110) p0 = true) <|
  bnd (FX1_beginPicture (xt G L110) y113 a) fun y114 =>
  app y114.1 <|
  ltt (L110 ++ y114.1) fun L117 =>
  some ([], y114.2)) else
  (dr (xt G []) 3 ((y97.2 a 10)) fun b120 =>
  bnd (FX3_beginsBehind (xt G []) y97 b120 ((y97.2 a 11))) fun y121 =>
  bnd (if y121.2 = ((0 : Int32)) then (some ([], y121.1)) else
  (chk (okd (xt G []) p0 = true) <|
  bnd (FX1_endPicture (xt G []) y121.1 a) fun y128 =>
  app y128.1 <|
  ltt ([] ++ y128.1) fun L131 =>
  bnd (FX1_bridge (xt G L131) y128.2 a) fun y134 =>
  chk (okd (xt G L131) p0 = true) <|
  bnd (FX1_beginPicture (xt G L131) y134 a) fun y135 =>
  app y135.1 <|
  ltt (L131 ++ y135.1) fun L138 =>
  some ([], y135.2))) fun (y122 : NN × DD) =>
  app y122.1 <|
  ltt ([] ++ y122.1) fun L124 =>
  some ([], y122.2))) fun (y99 : NN × DD) =>
  app y99.1 <|
  ltt ([] ++ y99.1) fun L101 =>
  bnd (FX1_beginSlice (xt G L101) y99.2 a) fun y103 =>
  bnd (FX1_readData (xt G L101) y103 a) fun y104 =>
  some ([], y104)) else
  (bnd (if y7 = ((7 : Int32)) then (chk (okd (xt G []) p0 = true) <|
  bnd (FX1_endPicture (xt G []) M8 a) fun y88 =>
  app y88.1 <|
  ltt ([] ++ y88.1) fun L91 =>
  bnd (FX1_readSequence (xt G L91) y88.2 a) fun y94 =>
  some ([], y94)) else
  (bnd (if y7 = ((8 : Int32)) then (chk (okd (xt G []) p0 = true) <|
  bnd (FX1_endPicture (xt G []) M8 a) fun y81 =>
  app y81.1 <|
  ltt ([] ++ y81.1) fun L84 =>
  bnd (FX1_readParameters (xt G L84) y81.2 a) fun y87 =>
  some ([], y87)) else
  (some ([], M8))) fun (y75 : NN × DD) =>
  app y75.1 <|
  ltt ([] ++ y75.1) fun L77 =>
  some ([], y75.2))) fun (y69 : NN × DD) =>
  app y69.1 <|
  ltt ([] ++ y69.1) fun L71 =>
  some ([], y69.2))) fun (y63 : NN × DD) =>
  app y63.1 <|
  ltt ([] ++ y63.1) fun L65 =>
  some ([], y63.2))) fun (y9 : NN × DD) =>
  app y9.1 <|
  ltt ([] ++ y9.1) fun L11 =>
  ltt ((p1 + ((1 : Int32)))) fun x13 =>
  ltt (uI y9.2 b2 4 x13) fun M14 =>
  some ([], M14)
set_option maxHeartbeats 4000000 in
set_option maxRecDepth 100000 in
theorem kX1_takeUnit (l : Launch) (D : va_G) (ct : CT) (ad : Nat → Nat) (Z : Nat → Nat) (G : GG) (M : DD) (sz : Nat) (a : Nat) (p0 : Option Nat) (p1 : Int32) (y : NN × DD) (hc : a < G.1) (hk : G.2.1 a = 1) (hF : FX1_takeUnit G M a p0 p1 = some y) : Met l yX1_takeUnit wuX1_takeUnit ({ frames := 7, cells := y.1.length, slots := wt y.1, locals := 199 }) (va_Pc [.ref (ad a), va_re ad p0, .int p1] (kB D ct ad Z G M sz)) (va_Qv (fun (u : Nat → Nat) => agr G.1 ad u) (fun u t => kE D ct u (xt G y.1) (wA ad G sz) y.2 t) (wA ad G sz)) y.1.length (wt y.1) (wA ad G sz) := by
  refine mt_ofWH (cc := cX1_takeUnit) (maxL := 6) (ret := none) (hh := [(41, 141, 144, 162)]) (by decide) rfl ?_
  intro p e s m args below meth c s₁ B hml hv
  obtain ⟨rfl, hsz, hP, hK, hD0, hZ, hN⟩ := hv
  have hx := B.exec
  have hb := B.bytes
  have hr := B.returns
  have hts := atoms_spec (ws := wuX1_takeUnit) B.pre
  have hown : s.vm.findClass RX1 = some m.cls := findClass_of_methodNamed B.named
  have hlocks := B.notSynchronized
  subst hsz
  have hD := wD_self (sz := s.heap.size) hD0
  have hA9 : ∀ q, s.heap.size ≤ q → wA ad G s.heap.size q := fun q h => Or.inr h
  generalize hAe : wA ad G s.heap.size = A at hD hA9 hZ ⊢
  have hS : va_S A s.heap s.heap [] := va_S.rf
  have hl := lv_entry ([.ref (ad a), va_re ad p0, .int p1]) (n := 6) (by cases p0 <;> exact Nat.le_of_ble_eq_true rfl)
  rw [lg_entry_eq]
  generalize (lg_sl ([.ref (ad a), va_re ad p0, .int p1]) ++ List.replicate (6 - (lg_sl ([.ref (ad a), va_re ad p0, .int p1])).length) Slot.unset).toArray = ls at hl ⊢
  have hl : lv_has ls 6 [(0, .ref (ad a)), (1, va_re ad p0), (2, .int p1)] := by have e9 : lv_args 0 [.ref (ad a), va_re ad p0, .int p1] = [(0, .ref (ad a)), (1, va_re ad p0), (2, .int p1)] := (by cases p0 <;> rfl); rw [e9] at hl; exact hl
  unfold FX1_takeUnit at hF
  rw [← wld_0 ct ad G M] at hP hD
  have hk := xt_k0 hc hk
  have hc := xt_l0 hc
  have hag := agr_rf G.1 ad
  obtain ⟨w0, hw0⟩ : ∃ z, z = y := ⟨_, rfl⟩
  rw [← hw0] at hF
  have hT : y.1 = [] ++ w0.1 := by rw [hw0]; rfl
  have h2 : y.2 = w0.2 := by rw [hw0]
  have hbl : y.1.length ≤ y.1.length ∧ wt y.1 ≤ wt y.1 := ⟨Nat.le_refl _, Nat.le_refl _⟩
  refine lv_aloadq_n hx hb dX1_takeUnit_0 rfl (lv_at hl 1 rfl) ?_
  refine lv_iload_n hx hb dX1_takeUnit_1 rfl (lv_at hl 2 rfl) ?_
  obtain ⟨b2, ho2, hc2, hk2, hF⟩ := dr_some hF
  refine W_st (st' := [.int p1, .ref (ad b2)]) (by rw [va_some ho2]) ?_
  obtain ⟨y3, hy3, hF⟩ := bnd_some hF
  have hf9 := wA_in hD hA9 hS
  refine va_callv (va_runV (As := [.int p1]) (rest := []) ⟨hx, hb, hml, hown, hts⟩ (kX8_loadPayload l D ct ad Z (xt G []) M s.heap.size b2 p1 y3 hc2 hk2 hy3) (cwV 1 hts gX1_takeUnit_X8_loadPayload rfl rfl rfl (by decide +kernel) ⟨Nat.le_of_ble_eq_true rfl, Nat.le_of_ble_eq_true rfl⟩) ⟨fun a U g mk q => by obtain ⟨q0, q1, qP, qK, qD, qZ, qN⟩ := q; exact ⟨q0, q1, qP, va_K.moved (u := U) (U := U.calling g mk a) (Vm.Alike.refl U.vm) qK, qD, sF.moved (u := U) (U := U.calling g mk a) (Vm.Alike.refl U.vm) qZ, nF.same rfl qN⟩, va_recv hK hP (ci := 8) (q0 := b2) rfl (wld_o ct ad (xt G []) M hc2 hk2 (by decide)), fun U hU hW => ⟨rfl, by rw [hU], by rw [hU]; exact hP, va_K.moved hW.alike hK, hD.weaken (fun _ _ _ _ => trivial), by rw [hU]; exact ((hZ.kept hS.2.1).narrow hf9).moved hW.alike, hN.warm hW⟩⟩ rfl rfl hl.1 rfl (lv_room (Nat.le_of_ble_eq_true rfl)) dX1_takeUnit_2 (room_d hT hbl)) hS (fun q _ h => hf9 q h) hf9 (fun u t H locs ht hvm hw hB hz1 hk1 hS => ?_)
  obtain ⟨hP, hK9, hD9⟩ := hB
  rw [ht] at hP
  refine W_cs (k := ([] : NN).length) (n := wt []) rfl rfl ?_
  have hD := hD9.weaken (fun _ q _ h => hf9 q.1 h)
  refine lv_aload_n hx hb dX1_takeUnit_5 rfl (lv_at hl 0 rfl) ?_
  refine va_get (D := D) (ci := 1) (v := va_re ad (y3.2 a 0)) (C := RX1) (T := TX1) (N := 22) hx hb hts (mus hf_X1) hown hK hP a (wld_o ct ad (xt G []) y3 hc hk (by decide)) rfl 0 (by decide) (hts (.fieldLink RX1 12 "VideoSuite$Decoder" "reader" "LVideoSuite$Reader;") (mu mw_640)) (fun _ h9 => h9) rfl dX1_takeUnit_6 ?_
  refine lv_aloadq_n hx hb dX1_takeUnit_9 rfl (lv_at hl 1 rfl) ?_
  obtain ⟨b4, ho4, hc4, hk4, hF⟩ := dr_some hF
  refine W_st (st' := [va_re ad p0, .ref (ad b4)]) (by rw [va_some ho4]) ?_
  obtain ⟨y5, hy5, hF⟩ := bnd_some hF
  have hf9 := wA_in hD hA9 hS
  refine va_callv (va_runV (As := [va_re ad p0]) (rest := []) ⟨hx, hb, hml, hown, hts⟩ (kX5_load l D ct ad Z (xt G []) y3 H.size b4 p0 y5 hc4 hk4 hy5) (cwV 1 hts gX1_takeUnit_X5_load rfl rfl rfl (by decide +kernel) ⟨Nat.le_of_ble_eq_true rfl, Nat.le_of_ble_eq_true rfl⟩) ⟨fun a U g mk q => by obtain ⟨q0, q1, qP, qK, qD, qZ, qN⟩ := q; exact ⟨q0, q1, qP, va_K.moved (u := U) (U := U.calling g mk a) (Vm.Alike.refl U.vm) qK, qD, sF.moved (u := U) (U := U.calling g mk a) (Vm.Alike.refl U.vm) qZ, nF.same rfl qN⟩, va_recv hK hP (ci := 5) (q0 := b4) rfl (wld_o ct ad (xt G []) y3 hc4 hk4 (by decide)), fun U hU hW => ⟨rfl, by rw [hU], by rw [hU]; exact hP, va_K.moved hW.alike hK, hD.weaken (fun _ _ _ _ => trivial), by rw [hU]; exact ((hZ.kept hS.2.1).narrow hf9).moved hW.alike, hN.warm hW⟩⟩ rfl rfl hl.1 rfl (lv_room (Nat.le_of_ble_eq_true rfl)) dX1_takeUnit_10 (room_d hT hbl)) hS (fun q _ h => hf9 q h) hf9 (fun u t H locs ht hvm hw hB hz1 hk1 hS => ?_)
  obtain ⟨hP, hK9, hD9⟩ := hB
  rw [ht] at hP
  refine W_cs (k := ([] : NN).length) (n := wt []) rfl rfl ?_
  have hD := hD9.weaken (fun _ q _ h => hf9 q.1 h)
  refine lv_aloadq_n hx hb dX1_takeUnit_13 rfl (lv_at hl 1 rfl) ?_
  refine lv_iload_n hx hb dX1_takeUnit_14 rfl (lv_at hl 2 rfl) ?_
  refine lv_iconst (v := (0 : Int32)) hx hb dX1_takeUnit_15 (by decide) ?_
  refine W_st (st' := [.int (0 : Int32), .int p1, .ref (ad b2)]) (by rw [va_some ho2]) ?_
  obtain ⟨y6, hy6, hF⟩ := bnd_some hF
  have hf9 := wA_in hD hA9 hS
  refine va_calli (va_runV (As := [.int p1, .int (0 : Int32)]) (rest := []) ⟨hx, hb, hml, hown, hts⟩ (kX8_byteAt l D ct ad Z (xt G []) y5 H.size b2 p1 ((0 : Int32)) y6 hc2 hk2 hy6) (cwV 2 hts gX1_takeUnit_X8_byteAt rfl rfl rfl (by decide +kernel) ⟨Nat.le_of_ble_eq_true rfl, Nat.le_of_ble_eq_true rfl⟩) ⟨fun a U g mk q => by obtain ⟨q0, q1, qP, qK, qD, qZ, qN⟩ := q; exact ⟨q0, q1, qP, va_K.moved (u := U) (U := U.calling g mk a) (Vm.Alike.refl U.vm) qK, qD, sF.moved (u := U) (U := U.calling g mk a) (Vm.Alike.refl U.vm) qZ, nF.same rfl qN⟩, va_recv hK hP (ci := 8) (q0 := b2) rfl (wld_o ct ad (xt G []) y5 hc2 hk2 (by decide)), fun U hU hW => ⟨rfl, by rw [hU], by rw [hU]; exact hP, va_K.moved hW.alike hK, hD.weaken (fun _ _ _ _ => trivial), by rw [hU]; exact ((hZ.kept hS.2.1).narrow hf9).moved hW.alike, hN.warm hW⟩⟩ rfl rfl hl.1 rfl (lv_room (Nat.le_of_ble_eq_true rfl)) dX1_takeUnit_16 (room_d hT hbl)) hS (fun q _ h => hf9 q h) hf9 (fun r u t H locs ht hvm hw hB hz1 hk1 hS => ?_)
  obtain ⟨hP, hK9, hD9⟩ := hB
  rw [ht] at hP
  try dsimp only at hw
  subst hw
  refine W_cs (k := ([] : NN).length) (n := wt []) rfl rfl ?_
  have hD := hD9.weaken (fun _ q _ h => hf9 q.1 h)
  refine lv_istore_n (lv' := [(3, .int y6.2), (0, .ref (ad a)), (1, va_re ad p0), (2, .int p1)]) hx hb dX1_takeUnit_19 rfl hl (by decide) rfl (fun ls hl => ?_)
  refine lv_iload_n hx hb dX1_takeUnit_20 rfl (lv_at hl 0 rfl) ?_
  refine lv_bipush (v := (127 : Int32)) hx hb dX1_takeUnit_21 (by decide) ?_
  obtain ⟨y7, hy7, hF⟩ := bnd_some hF
  have J7 : ∀ (H : Heap) (locs : List Loc) (ls : Array Slot), va_P D classes (wld ct ad (xt G []) y6.1) H → va_D A (wld ct ad (xt G []) y6.1) → va_S A s.heap H locs → lv_has ls 6 [(3, .int y6.2), (0, .ref (ad a)), (1, va_re ad p0), (2, .int p1)] → W p l e (headSpec wuX1_takeUnit ({ frames := 7, cells := y.1.length, slots := wt y.1, locals := 199 })).room s m ([.ref (ad a), va_re ad p0, .int p1] : List Value).toArray below meth c H locs ([] : NN).length (wt []) (MQ below (va_Qv (fun (u : Nat → Nat) => agr G.1 ad u) (fun u t => kE D ct u (xt G y.1) A y.2 t) A) ([.ref (ad a), va_re ad p0, .int p1] : List Value).toArray s y.1.length (wt y.1) A) (F0 m 34 ls [.int y7]) := by
    intro H locs ls hP hD hS hl
    refine lv_istore (lv' := [(4, .int y7), (3, .int y6.2), (0, .ref (ad a)), (1, va_re ad p0), (2, .int p1)]) hx hb dX1_takeUnit_34 hl (by decide) rfl (fun ls hl => ?_)
    refine lv_aload_n hx hb dX1_takeUnit_36 rfl (lv_at hl 2 rfl) ?_
    refine lv_iconst (v := (-1 : Int32)) hx hb dX1_takeUnit_37 (by decide) ?_
    refine va_put (D := D) (ci := 1) (v := .int (-1 : Int32)) (ty := .int) (C := RX1) (T := TX1) (N := 22) hx hb hts (mus hf_X1) tyX1 tyX1_ok nmX1 hown hK hP hD hS a (wld_o ct ad (xt G []) y6.1 hc hk (by decide)) rfl 21 (by decide) (hts (.fieldLink RX1 130 "VideoSuite$Decoder" "current" "I") (mu mw_668)) (fun _ h9 => h9) rfl (by decide +kernel) rfl rfl (Nat.le_of_ble_eq_true rfl) dX1_takeUnit_38 (fun H locs hP hD hS => ?_)
    obtain ⟨M8, eM8, hF⟩ := ltt_some hF
    rw [set_oI ct ad (xt G []) y6.1 hc hk (by decide) (by rfl), ← eM8] at hP hD
    refine lv_iload hx hb dX1_takeUnit_41 (lv_at hl 0 rfl) ?_
    refine lv_iconst (v := (1 : Int32)) hx hb dX1_takeUnit_43 (by decide) ?_
    obtain ⟨y9, hy9, hF⟩ := bnd_some hF
    obtain ⟨w10, hF, ew10⟩ := app_some hF
    obtain ⟨L11, eL11, hF⟩ := ltt_some hF
    have hT11 : y.1 = ([] ++ y9.1) ++ w10.1 := by rw [hT, ew10]; simp only [List.append_assoc]
    have hbl11 : L11.length ≤ y.1.length ∧ wt L11 ≤ wt y.1 := by rw [eL11]; exact room_d hT11 hbl
    have J9 : ∀ (ad12 : Nat → Nat), agr G.1 ad ad12 → ∀ (H : Heap) (locs : List Loc) (ls : Array Slot), va_P D classes (wld ct ad12 (xt G L11) y9.2) H → va_D A (wld ct ad12 (xt G L11) y9.2) → va_S A s.heap H locs → lv_has ls 6 [(1, va_re ad12 p0), (2, .int p1)] → W p l e (headSpec wuX1_takeUnit ({ frames := 7, cells := y.1.length, slots := wt y.1, locals := 199 })).room s m ([.ref (ad a), va_re ad p0, .int p1] : List Value).toArray below meth c H locs (L11 : NN).length (wt L11) (MQ below (va_Qv (fun (u : Nat → Nat) => agr G.1 ad u) (fun u t => kE D ct u (xt G y.1) A y.2 t) A) ([.ref (ad a), va_re ad p0, .int p1] : List Value).toArray s y.1.length (wt y.1) A) (F0 m 141 ls []) := by
      intro ad12 hag H locs ls hP hD hS hl
      have hT : y.1 = L11 ++ w10.1 := by rw [hT11, eL11]
      have h2 : y.2 = w10.2 := by rw [h2, ew10]
      have hk : (xt G L11).2.1 a = 1 := by rw [eL11]; exact xt_k _ hc hk
      have hc : a < (xt G L11).1 := by rw [eL11]; exact xt_l _ hc
      have hk2 : (xt G L11).2.1 b2 = 8 := by rw [eL11]; exact xt_k _ hc2 hk2
      have hc2 : b2 < (xt G L11).1 := by rw [eL11]; exact xt_l _ hc2
      have hk4 : (xt G L11).2.1 b4 = 5 := by rw [eL11]; exact xt_k _ hc4 hk4
      have hc4 : b4 < (xt G L11).1 := by rw [eL11]; exact xt_l _ hc4
      refine lv_goto (tgt := 151) hx hb dX1_takeUnit_141 (by decide) ?_
      refine lv_aloadq_n hx hb dX1_takeUnit_151 rfl (lv_at hl 0 rfl) ?_
      refine lv_iload_n hx hb dX1_takeUnit_152 rfl (lv_at hl 1 rfl) ?_
      refine lv_iconst (v := (1 : Int32)) hx hb dX1_takeUnit_153 (by decide) ?_
      refine lv_iadd hx hb dX1_takeUnit_154 ?_
      obtain ⟨x13, ex13, hF⟩ := ltt_some hF
      refine lv_topi (fun zx13 ezx13 => ?_)
      obtain rfl : x13 = zx13 := ex13.trans ezx13.symm
      refine W_st (st' := [.int x13, .ref (ad12 b2)]) (by rw [va_some ho2]) ?_
      refine va_put (D := D) (ci := 8) (v := .int x13) (ty := .int) (C := RX8) (T := TX8) (N := 15) hx hb hts (mus hf_X8) tyX8 tyX8_ok nmX8 hown hK hP hD hS b2 (wld_o ct ad12 (xt G L11) y9.2 hc2 hk2 (by decide)) rfl 4 (by decide) (hts (.fieldLink RX1 167 "VideoSuite$Units" "decoded" "I") (mu mw_217)) (fun _ h9 => h9) rfl (by decide +kernel) rfl rfl (Nat.le_of_ble_eq_true rfl) dX1_takeUnit_155 (fun H locs hP hD hS => ?_)
      obtain ⟨M14, eM14, hF⟩ := ltt_some hF
      rw [set_oI ct ad12 (xt G L11) y9.2 hc2 hk2 (by decide) (by rfl), ← eM14] at hP hD
      obtain rfl := Option.some.inj hF
      have e1 : y.1 = L11 := by rw [hT]; exact List.append_nil _
      have e2 : y.2 = M14 := h2
      refine W.widen (k := y.1.length) (n := wt y.1) (Nat.le_of_eq (by rw [e1])) (Nat.le_of_eq (by rw [e1])) ?_
      exact W.vret hx hb hr (fun t ht hW => ⟨⟨ad12, rfl, hag, (by unfold kE; rw [e1, e2]; exact ⟨by rw [ht]; exact hP, va_K.moved hW.alike hK, hD⟩)⟩, hS.F ht⟩) hS.2.2 dX1_takeUnit_158
    clear hF
    obtain ⟨w15, hw15⟩ : ∃ z, z = y9 := ⟨_, rfl⟩
    have hF := hy9
    rw [← hw15] at hF
    clear hy9
    have hT : L11 = [] ++ w15.1 := by rw [eL11, hw15]
    have h2 : y9.2 = w15.2 := by rw [hw15]
    have hbl := hbl11
    refine lv_icmp_eq (tgt := 53) hx hb dX1_takeUnit_44 (by decide) (fun c16 => ?_) (fun c16 => ?_)
    · rw [if_pos c16] at hF
      refine lv_aload_n hx hb dX1_takeUnit_53 rfl (lv_at hl 2 rfl) ?_
      refine lv_iload hx hb dX1_takeUnit_54 (lv_at hl 0 rfl) ?_
      refine lv_iload_n hx hb dX1_takeUnit_56 rfl (lv_at hl 1 rfl) ?_
      refine lv_iconst (v := (5 : Int32)) hx hb dX1_takeUnit_57 (by decide) ?_
      refine lv_ishr hx hb dX1_takeUnit_58 ?_
      obtain ⟨x17, ex17, hF⟩ := ltt_some hF
      refine lv_topi (fun zx17 ezx17 => ?_)
      obtain rfl : x17 = zx17 := ex17.trans ezx17.symm
      refine lv_iconst (v := (3 : Int32)) hx hb dX1_takeUnit_59 (by decide) ?_
      refine lv_iand hx hb dX1_takeUnit_60 ?_
      obtain ⟨x18, ex18, hF⟩ := ltt_some hF
      refine lv_topi (fun zx18 ezx18 => ?_)
      obtain rfl : x18 = zx18 := ex18.trans ezx18.symm
      obtain ⟨y19, hy19, hF⟩ := bnd_some hF
      have hf9 := wA_in hD hA9 hS
      refine va_callv (va_runV (As := [.int y7, .int x18]) (rest := []) ⟨hx, hb, hml, hown, hts⟩ (kX1_readHeader l D ct ad Z (xt G []) M8 H.size a y7 x18 y19 hc hk hy19) (cwV 2 hts gX1_takeUnit_X1_readHeader rfl rfl rfl (by decide +kernel) ⟨Nat.le_of_ble_eq_true rfl, Nat.le_of_ble_eq_true rfl⟩) ⟨fun a U g mk q => by obtain ⟨q0, q1, qP, qK, qD, qZ, qN⟩ := q; exact ⟨q0, q1, qP, va_K.moved (u := U) (U := U.calling g mk a) (Vm.Alike.refl U.vm) qK, qD, sF.moved (u := U) (U := U.calling g mk a) (Vm.Alike.refl U.vm) qZ, nF.same rfl qN⟩, va_recv hK hP (ci := 1) (q0 := a) rfl (wld_o ct ad (xt G []) M8 hc hk (by decide)), fun U hU hW => ⟨rfl, by rw [hU], by rw [hU]; exact hP, va_K.moved hW.alike hK, hD.weaken (fun _ _ _ _ => trivial), by rw [hU]; exact ((hZ.kept hS.2.1).narrow hf9).moved hW.alike, hN.warm hW⟩⟩ rfl rfl hl.1 rfl (lv_room (Nat.le_of_ble_eq_true rfl)) dX1_takeUnit_61 (room_d hT hbl)) hS (fun q _ h => hf9 q h) hf9 (fun u t H locs ht hvm hw hB hz1 hk1 hS => ?_)
      obtain ⟨hP, hK9, hD9⟩ := hB
      rw [ht] at hP
      refine W_cs (k := ([] : NN).length) (n := wt []) rfl rfl ?_
      have hD := hD9.weaken (fun _ q _ h => hf9 q.1 h)
      refine lv_aload_n hx hb dX1_takeUnit_64 rfl (lv_at hl 2 rfl) ?_
      refine va_get (D := D) (ci := 1) (v := .int (y19.1 a 16)) (C := RX1) (T := TX1) (N := 22) hx hb hts (mus hf_X1) hown hK hP a (wld_o ct ad (xt G []) y19 hc hk (by decide)) rfl 16 (by decide) (hts (.fieldLink RX1 109 "VideoSuite$Decoder" "underWay" "Z") (mu mw_660)) (fun _ h9 => h9) rfl dX1_takeUnit_65 ?_
      obtain ⟨x20, ex20, hF⟩ := ltt_some hF
      refine lv_topi (fun zx20 ezx20 => ?_)
      obtain rfl : x20 = zx20 := ex20.trans ezx20.symm
      obtain ⟨y21, hy21, hF⟩ := bnd_some hF
      obtain ⟨w22, hF, ew22⟩ := app_some hF
      obtain ⟨L23, eL23, hF⟩ := ltt_some hF
      have hT23 : L11 = ([] ++ y21.1) ++ w22.1 := by rw [hT, ew22]; simp only [List.append_assoc]
      have hbl23 : L23.length ≤ y.1.length ∧ wt L23 ≤ wt y.1 := by rw [eL23]; exact room_d hT23 hbl
      have J21 : ∀ (ad24 : Nat → Nat), agr G.1 ad ad24 → ∀ (H : Heap) (locs : List Loc) (ls : Array Slot), va_P D classes (wld ct ad24 (xt G L23) y21.2) H → va_D A (wld ct ad24 (xt G L23) y21.2) → va_S A s.heap H locs → lv_has ls 6 [(0, .ref (ad24 a)), (1, va_re ad24 p0), (2, .int p1)] → W p l e (headSpec wuX1_takeUnit ({ frames := 7, cells := y.1.length, slots := wt y.1, locals := 199 })).room s m ([.ref (ad a), va_re ad p0, .int p1] : List Value).toArray below meth c H locs (L23 : NN).length (wt L23) (MQ below (va_Qv (fun (u : Nat → Nat) => agr G.1 ad u) (fun u t => kE D ct u (xt G y.1) A y.2 t) A) ([.ref (ad a), va_re ad p0, .int p1] : List Value).toArray s y.1.length (wt y.1) A) (F0 m 97 ls []) := by
        intro ad24 hag H locs ls hP hD hS hl
        have hT : L11 = L23 ++ w22.1 := by rw [hT23, eL23]
        have h2 : y9.2 = w22.2 := by rw [h2, ew22]
        have hk : (xt G L23).2.1 a = 1 := by rw [eL23]; exact xt_k _ hc hk
        have hc : a < (xt G L23).1 := by rw [eL23]; exact xt_l _ hc
        have hk2 : (xt G L23).2.1 b2 = 8 := by rw [eL23]; exact xt_k _ hc2 hk2
        have hc2 : b2 < (xt G L23).1 := by rw [eL23]; exact xt_l _ hc2
        have hk4 : (xt G L23).2.1 b4 = 5 := by rw [eL23]; exact xt_k _ hc4 hk4
        have hc4 : b4 < (xt G L23).1 := by rw [eL23]; exact xt_l _ hc4
        refine lv_aload_n hx hb dX1_takeUnit_97 rfl (lv_at hl 0 rfl) ?_
        obtain ⟨y25, hy25, hF⟩ := bnd_some hF
        have hf9 := wA_in hD hA9 hS
        refine va_callv (va_runV (As := []) (rest := []) ⟨hx, hb, hml, hown, hts⟩ (kX1_beginSlice l D ct ad24 Z (xt G L23) y21.2 H.size a y25 hc hk hy25) (cwV 0 hts gX1_takeUnit_X1_beginSlice rfl rfl rfl (by decide +kernel) ⟨Nat.le_of_ble_eq_true rfl, Nat.le_of_ble_eq_true rfl⟩) ⟨fun a U g mk q => by obtain ⟨q0, q1, qP, qK, qD, qZ, qN⟩ := q; exact ⟨q0, q1, qP, va_K.moved (u := U) (U := U.calling g mk a) (Vm.Alike.refl U.vm) qK, qD, sF.moved (u := U) (U := U.calling g mk a) (Vm.Alike.refl U.vm) qZ, nF.same rfl qN⟩, va_recv hK hP (ci := 1) (q0 := a) rfl (wld_o ct ad24 (xt G L23) y21.2 hc hk (by decide)), fun U hU hW => ⟨rfl, by rw [hU], by rw [hU]; exact hP, va_K.moved hW.alike hK, hD.weaken (fun _ _ _ _ => trivial), by rw [hU]; exact ((hZ.kept hS.2.1).narrow hf9).moved hW.alike, hN.warm hW⟩⟩ rfl rfl hl.1 rfl (lv_room (Nat.le_of_ble_eq_true rfl)) dX1_takeUnit_98 (room_d hT hbl)) hS (fun q _ h => hf9 q h) hf9 (fun u t H locs ht hvm hw hB hz1 hk1 hS => ?_)
        obtain ⟨hP, hK9, hD9⟩ := hB
        rw [ht] at hP
        refine W_cs (k := (L23 : NN).length) (n := wt L23) rfl rfl ?_
        have hD := hD9.weaken (fun _ q _ h => hf9 q.1 h)
        refine lv_aload_n hx hb dX1_takeUnit_101 rfl (lv_at hl 0 rfl) ?_
        obtain ⟨y26, hy26, hF⟩ := bnd_some hF
        have hf9 := wA_in hD hA9 hS
        refine va_callv (va_runV (As := []) (rest := []) ⟨hx, hb, hml, hown, hts⟩ (kX1_readData l D ct ad24 Z (xt G L23) y25 H.size a y26 hc hk hy26) (cwV 0 hts gX1_takeUnit_X1_readData rfl rfl rfl (by decide +kernel) ⟨Nat.le_of_ble_eq_true rfl, Nat.le_of_ble_eq_true rfl⟩) ⟨fun a U g mk q => by obtain ⟨q0, q1, qP, qK, qD, qZ, qN⟩ := q; exact ⟨q0, q1, qP, va_K.moved (u := U) (U := U.calling g mk a) (Vm.Alike.refl U.vm) qK, qD, sF.moved (u := U) (U := U.calling g mk a) (Vm.Alike.refl U.vm) qZ, nF.same rfl qN⟩, va_recv hK hP (ci := 1) (q0 := a) rfl (wld_o ct ad24 (xt G L23) y25 hc hk (by decide)), fun U hU hW => ⟨rfl, by rw [hU], by rw [hU]; exact hP, va_K.moved hW.alike hK, hD.weaken (fun _ _ _ _ => trivial), by rw [hU]; exact ((hZ.kept hS.2.1).narrow hf9).moved hW.alike, hN.warm hW⟩⟩ rfl rfl hl.1 rfl (lv_room (Nat.le_of_ble_eq_true rfl)) dX1_takeUnit_102 (room_d hT hbl)) hS (fun q _ h => hf9 q h) hf9 (fun u t H locs ht hvm hw hB hz1 hk1 hS => ?_)
        obtain ⟨hP, hK9, hD9⟩ := hB
        rw [ht] at hP
        refine W_cs (k := (L23 : NN).length) (n := wt L23) rfl rfl ?_
        have hD := hD9.weaken (fun _ q _ h => hf9 q.1 h)
        refine lv_goto (tgt := 141) hx hb dX1_takeUnit_105 (by decide) ?_
        obtain rfl := Option.some.inj hF
        have e1 : L11 = L23 := by rw [hT]; exact List.append_nil _
        have e2 : y9.2 = y26 := h2
        rw [e1] at J9
        try rw [e2] at J9
        exact J9 _ hag _ _ _ hP hD hS (lv_sub hl [1, 2] rfl)
      clear hF
      obtain ⟨w27, hw27⟩ : ∃ z, z = y21 := ⟨_, rfl⟩
      have hF := hy21
      rw [← hw27] at hF
      clear hy21
      have hT : L23 = [] ++ w27.1 := by rw [eL23, hw27]
      have h2 : y21.2 = w27.2 := by rw [hw27]
      have hbl := hbl23
      refine lv_if_eq (tgt := 85) hx hb dX1_takeUnit_68 (by decide) (fun c28 => ?_) (fun c28 => ?_)
      · rw [if_pos c28] at hF
        refine lv_aload_n hx hb dX1_takeUnit_85 rfl (lv_at hl 2 rfl) ?_
        obtain ⟨hq30, hF⟩ := chk_some hF
        obtain ⟨y29, hy29, hF⟩ := bnd_some hF
        obtain ⟨w31, hF, ew31⟩ := app_some hF
        obtain ⟨L32, eL32, hF⟩ := ltt_some hF
        have hT32 : L23 = ([] ++ y29.1) ++ w31.1 := by rw [hT, ew31]; simp only [List.append_assoc]
        have hf9 := wA_in hD hA9 hS
        refine va_callv (va_runV (As := []) (rest := []) ⟨hx, hb, hml, hown, hts⟩ (kX1_endPicture l D ct ad Z (xt G []) y19 _ a y29 hc hk hy29) (cwV 0 hts gX1_takeUnit_X1_endPicture rfl rfl rfl (by decide +kernel) ⟨Nat.le_of_ble_eq_true rfl, Nat.le_of_ble_eq_true rfl⟩) ⟨fun a U g mk q => by obtain ⟨q0, q1, qP, qK, qD, qZ, qN⟩ := q; exact ⟨q0, q1, qP, va_K.moved (u := U) (U := U.calling g mk a) (Vm.Alike.refl U.vm) qK, qD, sF.moved (u := U) (U := U.calling g mk a) (Vm.Alike.refl U.vm) qZ, nF.same rfl qN⟩, va_recv hK hP (ci := 1) (q0 := a) rfl (wld_o ct ad (xt G []) y19 hc hk (by decide)), fun U hU hW => ⟨rfl, by rw [hU], by rw [hU]; exact hP, va_K.moved hW.alike hK, hD.weaken (fun _ _ _ _ => trivial), by rw [hU]; exact ((hZ.kept hS.2.1).narrow hf9).moved hW.alike, hN.warm hW⟩⟩ rfl rfl hl.1 rfl (lv_room (Nat.le_of_ble_eq_true rfl)) dX1_takeUnit_86 (room_s hT32 hbl)) hS (fun q _ h => hf9 q h) hf9 (fun ad33 t H locs ht hvm hw hB hz1 hk1 hS => ?_)
        have hn34 := hw
        obtain ⟨hP, hK9, hD9⟩ := hB
        rw [ht] at hP
        have hD := hD9.weaken (fun _ q _ h => hf9 q.1 h)
        rw [xt_xt, ← eL32] at hP hD
        refine W_cs (k := L32.length) (n := wt L32) (by rw [eL32]; exact (len_s [] y29.1).symm) (by rw [eL32]; exact (wt_app [] y29.1).symm) ?_
        have hT : L23 = L32 ++ w31.1 := by rw [hT32, eL32]
        have h2 : y21.2 = w31.2 := by rw [h2, ew31]
        have hl := lv_sub (l' := [(0, .ref (ad a)), (1, va_re ad p0), (2, .int p1)]) hl [2, 3, 4] rfl
        have e9 : ([(0, .ref (ad a)), (1, va_re ad p0), (2, .int p1)] : List (Nat × Value)) = [(0, .ref (ad33 a)), (1, va_re ad33 p0), (2, .int p1)] := (by first | rfl | simp only [hn34 a hc, agr_re hn34 hq30])
        rw [e9] at hl
        clear e9
        have hk : (xt G L32).2.1 a = 1 := by rw [eL32]; exact xt_k _ hc hk
        have hc : a < (xt G L32).1 := by rw [eL32]; exact xt_l _ hc
        have hk2 : (xt G L32).2.1 b2 = 8 := by rw [eL32]; exact xt_k _ hc2 hk2
        have hc2 : b2 < (xt G L32).1 := by rw [eL32]; exact xt_l _ hc2
        have hk4 : (xt G L32).2.1 b4 = 5 := by rw [eL32]; exact xt_k _ hc4 hk4
        have hc4 : b4 < (xt G L32).1 := by rw [eL32]; exact xt_l _ hc4
        have hag := agr_t (xt_ge _ _) hag hn34
        refine lv_aload_n hx hb dX1_takeUnit_89 rfl (lv_at hl 0 rfl) ?_
        obtain ⟨y35, hy35, hF⟩ := bnd_some hF
        have hf9 := wA_in hD hA9 hS
        refine va_callv (va_runV (As := []) (rest := []) ⟨hx, hb, hml, hown, hts⟩ (kX1_bridge l D ct ad33 Z (xt G L32) y29.2 H.size a y35 hc hk hy35) (cwV 0 hts gX1_takeUnit_X1_bridge rfl rfl rfl (by decide +kernel) ⟨Nat.le_of_ble_eq_true rfl, Nat.le_of_ble_eq_true rfl⟩) ⟨fun a U g mk q => by obtain ⟨q0, q1, qP, qK, qD, qZ, qN⟩ := q; exact ⟨q0, q1, qP, va_K.moved (u := U) (U := U.calling g mk a) (Vm.Alike.refl U.vm) qK, qD, sF.moved (u := U) (U := U.calling g mk a) (Vm.Alike.refl U.vm) qZ, nF.same rfl qN⟩, va_recv hK hP (ci := 1) (q0 := a) rfl (wld_o ct ad33 (xt G L32) y29.2 hc hk (by decide)), fun U hU hW => ⟨rfl, by rw [hU], by rw [hU]; exact hP, va_K.moved hW.alike hK, hD.weaken (fun _ _ _ _ => trivial), by rw [hU]; exact ((hZ.kept hS.2.1).narrow hf9).moved hW.alike, hN.warm hW⟩⟩ rfl rfl hl.1 rfl (lv_room (Nat.le_of_ble_eq_true rfl)) dX1_takeUnit_90 (room_d hT hbl)) hS (fun q _ h => hf9 q h) hf9 (fun u t H locs ht hvm hw hB hz1 hk1 hS => ?_)
        obtain ⟨hP, hK9, hD9⟩ := hB
        rw [ht] at hP
        refine W_cs (k := (L32 : NN).length) (n := wt L32) rfl rfl ?_
        have hD := hD9.weaken (fun _ q _ h => hf9 q.1 h)
        refine lv_aload_n hx hb dX1_takeUnit_93 rfl (lv_at hl 0 rfl) ?_
        obtain ⟨hq37, hF⟩ := chk_some hF
        obtain ⟨y36, hy36, hF⟩ := bnd_some hF
        obtain ⟨w38, hF, ew38⟩ := app_some hF
        obtain ⟨L39, eL39, hF⟩ := ltt_some hF
        have hT39 : L23 = (L32 ++ y36.1) ++ w38.1 := by rw [hT, ew38]; simp only [List.append_assoc]
        have hf9 := wA_in hD hA9 hS
        refine va_callv (va_runV (As := []) (rest := []) ⟨hx, hb, hml, hown, hts⟩ (kX1_beginPicture l D ct ad33 Z (xt G L32) y35 _ a y36 hc hk hy36) (cwV 0 hts gX1_takeUnit_X1_beginPicture rfl rfl rfl (by decide +kernel) ⟨Nat.le_of_ble_eq_true rfl, Nat.le_of_ble_eq_true rfl⟩) ⟨fun a U g mk q => by obtain ⟨q0, q1, qP, qK, qD, qZ, qN⟩ := q; exact ⟨q0, q1, qP, va_K.moved (u := U) (U := U.calling g mk a) (Vm.Alike.refl U.vm) qK, qD, sF.moved (u := U) (U := U.calling g mk a) (Vm.Alike.refl U.vm) qZ, nF.same rfl qN⟩, va_recv hK hP (ci := 1) (q0 := a) rfl (wld_o ct ad33 (xt G L32) y35 hc hk (by decide)), fun U hU hW => ⟨rfl, by rw [hU], by rw [hU]; exact hP, va_K.moved hW.alike hK, hD.weaken (fun _ _ _ _ => trivial), by rw [hU]; exact ((hZ.kept hS.2.1).narrow hf9).moved hW.alike, hN.warm hW⟩⟩ rfl rfl hl.1 rfl (lv_room (Nat.le_of_ble_eq_true rfl)) dX1_takeUnit_94 (room_s hT39 hbl)) hS (fun q _ h => hf9 q h) hf9 (fun ad40 t H locs ht hvm hw hB hz1 hk1 hS => ?_)
        have hn41 := hw
        obtain ⟨hP, hK9, hD9⟩ := hB
        rw [ht] at hP
        have hD := hD9.weaken (fun _ q _ h => hf9 q.1 h)
        rw [xt_xt, ← eL39] at hP hD
        refine W_cs (k := L39.length) (n := wt L39) (by rw [eL39]; exact (len_s L32 y36.1).symm) (by rw [eL39]; exact (wt_app L32 y36.1).symm) ?_
        have hT : L23 = L39 ++ w38.1 := by rw [hT39, eL39]
        have h2 : y21.2 = w38.2 := by rw [h2, ew38]
        have hl := lv_sub (l' := [(0, .ref (ad33 a)), (1, va_re ad33 p0), (2, .int p1)]) hl [0, 1, 2] rfl
        have e9 : ([(0, .ref (ad33 a)), (1, va_re ad33 p0), (2, .int p1)] : List (Nat × Value)) = [(0, .ref (ad40 a)), (1, va_re ad40 p0), (2, .int p1)] := (by first | rfl | simp only [hn41 a hc, agr_re hn41 hq37])
        rw [e9] at hl
        clear e9
        have hk : (xt G L39).2.1 a = 1 := by rw [eL39]; exact xt_k _ hc hk
        have hc : a < (xt G L39).1 := by rw [eL39]; exact xt_l _ hc
        have hk2 : (xt G L39).2.1 b2 = 8 := by rw [eL39]; exact xt_k _ hc2 hk2
        have hc2 : b2 < (xt G L39).1 := by rw [eL39]; exact xt_l _ hc2
        have hk4 : (xt G L39).2.1 b4 = 5 := by rw [eL39]; exact xt_k _ hc4 hk4
        have hc4 : b4 < (xt G L39).1 := by rw [eL39]; exact xt_l _ hc4
        have hag := agr_t (xt_ge _ _) hag hn41
        obtain rfl := Option.some.inj hF
        have e1 : L23 = L39 := by rw [hT]; exact List.append_nil _
        have e2 : y21.2 = y36.2 := h2
        rw [e1] at J21
        try rw [e2] at J21
        exact J21 _ hag _ _ _ hP hD hS (lv_sub hl [0, 1, 2] rfl)
      · rw [if_neg c28] at hF
        refine lv_aload_n hx hb dX1_takeUnit_71 rfl (lv_at hl 2 rfl) ?_
        refine va_get (D := D) (ci := 1) (v := va_re ad (y19.2 a 10)) (C := RX1) (T := TX1) (N := 22) hx hb hts (mus hf_X1) hown hK hP a (wld_o ct ad (xt G []) y19 hc hk (by decide)) rfl 10 (by decide) (hts (.fieldLink RX1 68 "VideoSuite$Decoder" "head" "LVideoSuite$Header;") (mu mw_652)) (fun _ h9 => h9) rfl dX1_takeUnit_72 ?_
        refine lv_aload_n hx hb dX1_takeUnit_75 rfl (lv_at hl 2 rfl) ?_
        refine va_get (D := D) (ci := 1) (v := va_re ad (y19.2 a 11)) (C := RX1) (T := TX1) (N := 22) hx hb hts (mus hf_X1) hown hK hP a (wld_o ct ad (xt G []) y19 hc hk (by decide)) rfl 11 (by decide) (hts (.fieldLink RX1 72 "VideoSuite$Decoder" "latest" "LVideoSuite$Header;") (mu mw_653)) (fun _ h9 => h9) rfl dX1_takeUnit_76 ?_
        obtain ⟨b42, ho42, hc42, hk42, hF⟩ := dr_some hF
        refine W_st (st' := [va_re ad (y19.2 a 11), .ref (ad b42)]) (by rw [va_some ho42]) ?_
        obtain ⟨y43, hy43, hF⟩ := bnd_some hF
        have hf9 := wA_in hD hA9 hS
        refine va_calli (va_runV (As := [va_re ad (y19.2 a 11)]) (rest := []) ⟨hx, hb, hml, hown, hts⟩ (kX3_beginsBehind l D ct ad Z (xt G []) y19 H.size b42 ((y19.2 a 11)) y43 hc42 hk42 hy43) (cwV 1 hts gX1_takeUnit_X3_beginsBehind rfl rfl rfl (by decide +kernel) ⟨Nat.le_of_ble_eq_true rfl, Nat.le_of_ble_eq_true rfl⟩) ⟨fun a U g mk q => by obtain ⟨q0, q1, qP, qK, qD, qZ, qN⟩ := q; exact ⟨q0, q1, qP, va_K.moved (u := U) (U := U.calling g mk a) (Vm.Alike.refl U.vm) qK, qD, sF.moved (u := U) (U := U.calling g mk a) (Vm.Alike.refl U.vm) qZ, nF.same rfl qN⟩, va_recv hK hP (ci := 3) (q0 := b42) rfl (wld_o ct ad (xt G []) y19 hc42 hk42 (by decide)), fun U hU hW => ⟨rfl, by rw [hU], by rw [hU]; exact hP, va_K.moved hW.alike hK, hD.weaken (fun _ _ _ _ => trivial), by rw [hU]; exact ((hZ.kept hS.2.1).narrow hf9).moved hW.alike, hN.warm hW⟩⟩ rfl rfl hl.1 rfl (lv_room (Nat.le_of_ble_eq_true rfl)) dX1_takeUnit_79 (room_d hT hbl)) hS (fun q _ h => hf9 q h) hf9 (fun r u t H locs ht hvm hw hB hz1 hk1 hS => ?_)
        obtain ⟨hP, hK9, hD9⟩ := hB
        rw [ht] at hP
        try dsimp only at hw
        subst hw
        refine W_cs (k := ([] : NN).length) (n := wt []) rfl rfl ?_
        have hD := hD9.weaken (fun _ q _ h => hf9 q.1 h)
        obtain ⟨y44, hy44, hF⟩ := bnd_some hF
        obtain ⟨w45, hF, ew45⟩ := app_some hF
        obtain ⟨L46, eL46, hF⟩ := ltt_some hF
        have hT46 : L23 = ([] ++ y44.1) ++ w45.1 := by rw [hT, ew45]; simp only [List.append_assoc]
        have hbl46 : L46.length ≤ y.1.length ∧ wt L46 ≤ wt y.1 := by rw [eL46]; exact room_d hT46 hbl
        have J44 : ∀ (ad47 : Nat → Nat), agr G.1 ad ad47 → ∀ (H : Heap) (locs : List Loc) (ls : Array Slot), va_P D classes (wld ct ad47 (xt G L46) y44.2) H → va_D A (wld ct ad47 (xt G L46) y44.2) → va_S A s.heap H locs → lv_has ls 6 [(0, .ref (ad47 a)), (1, va_re ad47 p0), (2, .int p1)] → W p l e (headSpec wuX1_takeUnit ({ frames := 7, cells := y.1.length, slots := wt y.1, locals := 199 })).room s m ([.ref (ad a), va_re ad p0, .int p1] : List Value).toArray below meth c H locs (L46 : NN).length (wt L46) (MQ below (va_Qv (fun (u : Nat → Nat) => agr G.1 ad u) (fun u t => kE D ct u (xt G y.1) A y.2 t) A) ([.ref (ad a), va_re ad p0, .int p1] : List Value).toArray s y.1.length (wt y.1) A) (F0 m 97 ls []) := by
          intro ad47 hag H locs ls hP hD hS hl
          have hT : L23 = L46 ++ w45.1 := by rw [hT46, eL46]
          have h2 : y21.2 = w45.2 := by rw [h2, ew45]
          have hk : (xt G L46).2.1 a = 1 := by rw [eL46]; exact xt_k _ hc hk
          have hc : a < (xt G L46).1 := by rw [eL46]; exact xt_l _ hc
          have hk2 : (xt G L46).2.1 b2 = 8 := by rw [eL46]; exact xt_k _ hc2 hk2
          have hc2 : b2 < (xt G L46).1 := by rw [eL46]; exact xt_l _ hc2
          have hk4 : (xt G L46).2.1 b4 = 5 := by rw [eL46]; exact xt_k _ hc4 hk4
          have hc4 : b4 < (xt G L46).1 := by rw [eL46]; exact xt_l _ hc4
          have hk42 : (xt G L46).2.1 b42 = 3 := by rw [eL46]; exact xt_k _ hc42 hk42
          have hc42 : b42 < (xt G L46).1 := by rw [eL46]; exact xt_l _ hc42
          obtain rfl := Option.some.inj hF
          have e1 : L23 = L46 := by rw [hT]; exact List.append_nil _
          have e2 : y21.2 = y44.2 := h2
          rw [e1] at J21
          try rw [e2] at J21
          exact J21 _ hag _ _ _ hP hD hS (lv_sub hl [0, 1, 2] rfl)
        clear hF
        obtain ⟨w48, hw48⟩ : ∃ z, z = y44 := ⟨_, rfl⟩
        have hF := hy44
        rw [← hw48] at hF
        clear hy44
        have hT : L46 = [] ++ w48.1 := by rw [eL46, hw48]
        have h2 : y44.2 = w48.2 := by rw [hw48]
        have hbl := hbl46
        refine lv_if_eq (tgt := 97) hx hb dX1_takeUnit_82 (by decide) (fun c49 => ?_) (fun c49 => ?_)
        · rw [if_pos c49] at hF
          obtain rfl := Option.some.inj hF
          have e1 : L46 = [] := by rw [hT]; exact List.append_nil _
          have e2 : y44.2 = y43.1 := h2
          rw [e1] at J44
          try rw [e2] at J44
          exact J44 _ hag _ _ _ hP hD hS (lv_sub hl [2, 3, 4] rfl)
        · rw [if_neg c49] at hF
          refine lv_aload_n hx hb dX1_takeUnit_85 rfl (lv_at hl 2 rfl) ?_
          obtain ⟨hq51, hF⟩ := chk_some hF
          obtain ⟨y50, hy50, hF⟩ := bnd_some hF
          obtain ⟨w52, hF, ew52⟩ := app_some hF
          obtain ⟨L53, eL53, hF⟩ := ltt_some hF
          have hT53 : L46 = ([] ++ y50.1) ++ w52.1 := by rw [hT, ew52]; simp only [List.append_assoc]
          have hf9 := wA_in hD hA9 hS
          refine va_callv (va_runV (As := []) (rest := []) ⟨hx, hb, hml, hown, hts⟩ (kX1_endPicture l D ct ad Z (xt G []) y43.1 _ a y50 hc hk hy50) (cwV 0 hts gX1_takeUnit_X1_endPicture rfl rfl rfl (by decide +kernel) ⟨Nat.le_of_ble_eq_true rfl, Nat.le_of_ble_eq_true rfl⟩) ⟨fun a U g mk q => by obtain ⟨q0, q1, qP, qK, qD, qZ, qN⟩ := q; exact ⟨q0, q1, qP, va_K.moved (u := U) (U := U.calling g mk a) (Vm.Alike.refl U.vm) qK, qD, sF.moved (u := U) (U := U.calling g mk a) (Vm.Alike.refl U.vm) qZ, nF.same rfl qN⟩, va_recv hK hP (ci := 1) (q0 := a) rfl (wld_o ct ad (xt G []) y43.1 hc hk (by decide)), fun U hU hW => ⟨rfl, by rw [hU], by rw [hU]; exact hP, va_K.moved hW.alike hK, hD.weaken (fun _ _ _ _ => trivial), by rw [hU]; exact ((hZ.kept hS.2.1).narrow hf9).moved hW.alike, hN.warm hW⟩⟩ rfl rfl hl.1 rfl (lv_room (Nat.le_of_ble_eq_true rfl)) dX1_takeUnit_86 (room_s hT53 hbl)) hS (fun q _ h => hf9 q h) hf9 (fun ad54 t H locs ht hvm hw hB hz1 hk1 hS => ?_)
          have hn55 := hw
          obtain ⟨hP, hK9, hD9⟩ := hB
          rw [ht] at hP
          have hD := hD9.weaken (fun _ q _ h => hf9 q.1 h)
          rw [xt_xt, ← eL53] at hP hD
          refine W_cs (k := L53.length) (n := wt L53) (by rw [eL53]; exact (len_s [] y50.1).symm) (by rw [eL53]; exact (wt_app [] y50.1).symm) ?_
          have hT : L46 = L53 ++ w52.1 := by rw [hT53, eL53]
          have h2 : y44.2 = w52.2 := by rw [h2, ew52]
          have hl := lv_sub (l' := [(0, .ref (ad a)), (1, va_re ad p0), (2, .int p1)]) hl [2, 3, 4] rfl
          have e9 : ([(0, .ref (ad a)), (1, va_re ad p0), (2, .int p1)] : List (Nat × Value)) = [(0, .ref (ad54 a)), (1, va_re ad54 p0), (2, .int p1)] := (by first | rfl | simp only [hn55 a hc, agr_re hn55 hq51])
          rw [e9] at hl
          clear e9
          have hk : (xt G L53).2.1 a = 1 := by rw [eL53]; exact xt_k _ hc hk
          have hc : a < (xt G L53).1 := by rw [eL53]; exact xt_l _ hc
          have hk2 : (xt G L53).2.1 b2 = 8 := by rw [eL53]; exact xt_k _ hc2 hk2
          have hc2 : b2 < (xt G L53).1 := by rw [eL53]; exact xt_l _ hc2
          have hk4 : (xt G L53).2.1 b4 = 5 := by rw [eL53]; exact xt_k _ hc4 hk4
          have hc4 : b4 < (xt G L53).1 := by rw [eL53]; exact xt_l _ hc4
          have hk42 : (xt G L53).2.1 b42 = 3 := by rw [eL53]; exact xt_k _ hc42 hk42
          have hc42 : b42 < (xt G L53).1 := by rw [eL53]; exact xt_l _ hc42
          have hag := agr_t (xt_ge _ _) hag hn55
          refine lv_aload_n hx hb dX1_takeUnit_89 rfl (lv_at hl 0 rfl) ?_
          obtain ⟨y56, hy56, hF⟩ := bnd_some hF
          have hf9 := wA_in hD hA9 hS
          refine va_callv (va_runV (As := []) (rest := []) ⟨hx, hb, hml, hown, hts⟩ (kX1_bridge l D ct ad54 Z (xt G L53) y50.2 H.size a y56 hc hk hy56) (cwV 0 hts gX1_takeUnit_X1_bridge rfl rfl rfl (by decide +kernel) ⟨Nat.le_of_ble_eq_true rfl, Nat.le_of_ble_eq_true rfl⟩) ⟨fun a U g mk q => by obtain ⟨q0, q1, qP, qK, qD, qZ, qN⟩ := q; exact ⟨q0, q1, qP, va_K.moved (u := U) (U := U.calling g mk a) (Vm.Alike.refl U.vm) qK, qD, sF.moved (u := U) (U := U.calling g mk a) (Vm.Alike.refl U.vm) qZ, nF.same rfl qN⟩, va_recv hK hP (ci := 1) (q0 := a) rfl (wld_o ct ad54 (xt G L53) y50.2 hc hk (by decide)), fun U hU hW => ⟨rfl, by rw [hU], by rw [hU]; exact hP, va_K.moved hW.alike hK, hD.weaken (fun _ _ _ _ => trivial), by rw [hU]; exact ((hZ.kept hS.2.1).narrow hf9).moved hW.alike, hN.warm hW⟩⟩ rfl rfl hl.1 rfl (lv_room (Nat.le_of_ble_eq_true rfl)) dX1_takeUnit_90 (room_d hT hbl)) hS (fun q _ h => hf9 q h) hf9 (fun u t H locs ht hvm hw hB hz1 hk1 hS => ?_)
          obtain ⟨hP, hK9, hD9⟩ := hB
          rw [ht] at hP
          refine W_cs (k := (L53 : NN).length) (n := wt L53) rfl rfl ?_
          have hD := hD9.weaken (fun _ q _ h => hf9 q.1 h)
          refine lv_aload_n hx hb dX1_takeUnit_93 rfl (lv_at hl 0 rfl) ?_
          obtain ⟨hq58, hF⟩ := chk_some hF
          obtain ⟨y57, hy57, hF⟩ := bnd_some hF
          obtain ⟨w59, hF, ew59⟩ := app_some hF
          obtain ⟨L60, eL60, hF⟩ := ltt_some hF
          have hT60 : L46 = (L53 ++ y57.1) ++ w59.1 := by rw [hT, ew59]; simp only [List.append_assoc]
          have hf9 := wA_in hD hA9 hS
          refine va_callv (va_runV (As := []) (rest := []) ⟨hx, hb, hml, hown, hts⟩ (kX1_beginPicture l D ct ad54 Z (xt G L53) y56 _ a y57 hc hk hy57) (cwV 0 hts gX1_takeUnit_X1_beginPicture rfl rfl rfl (by decide +kernel) ⟨Nat.le_of_ble_eq_true rfl, Nat.le_of_ble_eq_true rfl⟩) ⟨fun a U g mk q => by obtain ⟨q0, q1, qP, qK, qD, qZ, qN⟩ := q; exact ⟨q0, q1, qP, va_K.moved (u := U) (U := U.calling g mk a) (Vm.Alike.refl U.vm) qK, qD, sF.moved (u := U) (U := U.calling g mk a) (Vm.Alike.refl U.vm) qZ, nF.same rfl qN⟩, va_recv hK hP (ci := 1) (q0 := a) rfl (wld_o ct ad54 (xt G L53) y56 hc hk (by decide)), fun U hU hW => ⟨rfl, by rw [hU], by rw [hU]; exact hP, va_K.moved hW.alike hK, hD.weaken (fun _ _ _ _ => trivial), by rw [hU]; exact ((hZ.kept hS.2.1).narrow hf9).moved hW.alike, hN.warm hW⟩⟩ rfl rfl hl.1 rfl (lv_room (Nat.le_of_ble_eq_true rfl)) dX1_takeUnit_94 (room_s hT60 hbl)) hS (fun q _ h => hf9 q h) hf9 (fun ad61 t H locs ht hvm hw hB hz1 hk1 hS => ?_)
          have hn62 := hw
          obtain ⟨hP, hK9, hD9⟩ := hB
          rw [ht] at hP
          have hD := hD9.weaken (fun _ q _ h => hf9 q.1 h)
          rw [xt_xt, ← eL60] at hP hD
          refine W_cs (k := L60.length) (n := wt L60) (by rw [eL60]; exact (len_s L53 y57.1).symm) (by rw [eL60]; exact (wt_app L53 y57.1).symm) ?_
          have hT : L46 = L60 ++ w59.1 := by rw [hT60, eL60]
          have h2 : y44.2 = w59.2 := by rw [h2, ew59]
          have hl := lv_sub (l' := [(0, .ref (ad54 a)), (1, va_re ad54 p0), (2, .int p1)]) hl [0, 1, 2] rfl
          have e9 : ([(0, .ref (ad54 a)), (1, va_re ad54 p0), (2, .int p1)] : List (Nat × Value)) = [(0, .ref (ad61 a)), (1, va_re ad61 p0), (2, .int p1)] := (by first | rfl | simp only [hn62 a hc, agr_re hn62 hq58])
          rw [e9] at hl
          clear e9
          have hk : (xt G L60).2.1 a = 1 := by rw [eL60]; exact xt_k _ hc hk
          have hc : a < (xt G L60).1 := by rw [eL60]; exact xt_l _ hc
          have hk2 : (xt G L60).2.1 b2 = 8 := by rw [eL60]; exact xt_k _ hc2 hk2
          have hc2 : b2 < (xt G L60).1 := by rw [eL60]; exact xt_l _ hc2
          have hk4 : (xt G L60).2.1 b4 = 5 := by rw [eL60]; exact xt_k _ hc4 hk4
          have hc4 : b4 < (xt G L60).1 := by rw [eL60]; exact xt_l _ hc4
          have hk42 : (xt G L60).2.1 b42 = 3 := by rw [eL60]; exact xt_k _ hc42 hk42
          have hc42 : b42 < (xt G L60).1 := by rw [eL60]; exact xt_l _ hc42
          have hag := agr_t (xt_ge _ _) hag hn62
          obtain rfl := Option.some.inj hF
          have e1 : L46 = L60 := by rw [hT]; exact List.append_nil _
          have e2 : y44.2 = y57.2 := h2
          rw [e1] at J44
          try rw [e2] at J44
          exact J44 _ hag _ _ _ hP hD hS (lv_sub hl [0, 1, 2] rfl)
    · rw [if_neg c16] at hF
      refine lv_iload hx hb dX1_takeUnit_47 (lv_at hl 0 rfl) ?_
      refine lv_iconst (v := (5 : Int32)) hx hb dX1_takeUnit_49 (by decide) ?_
      obtain ⟨y63, hy63, hF⟩ := bnd_some hF
      obtain ⟨w64, hF, ew64⟩ := app_some hF
      obtain ⟨L65, eL65, hF⟩ := ltt_some hF
      have hT65 : L11 = ([] ++ y63.1) ++ w64.1 := by rw [hT, ew64]; simp only [List.append_assoc]
      have hbl65 : L65.length ≤ y.1.length ∧ wt L65 ≤ wt y.1 := by rw [eL65]; exact room_d hT65 hbl
      have J63 : ∀ (ad66 : Nat → Nat), agr G.1 ad ad66 → ∀ (H : Heap) (locs : List Loc) (ls : Array Slot), va_P D classes (wld ct ad66 (xt G L65) y63.2) H → va_D A (wld ct ad66 (xt G L65) y63.2) → va_S A s.heap H locs → lv_has ls 6 [(1, va_re ad66 p0), (2, .int p1)] → W p l e (headSpec wuX1_takeUnit ({ frames := 7, cells := y.1.length, slots := wt y.1, locals := 199 })).room s m ([.ref (ad a), va_re ad p0, .int p1] : List Value).toArray below meth c H locs (L65 : NN).length (wt L65) (MQ below (va_Qv (fun (u : Nat → Nat) => agr G.1 ad u) (fun u t => kE D ct u (xt G y.1) A y.2 t) A) ([.ref (ad a), va_re ad p0, .int p1] : List Value).toArray s y.1.length (wt y.1) A) (F0 m 141 ls []) := by
        intro ad66 hag H locs ls hP hD hS hl
        have hT : L11 = L65 ++ w64.1 := by rw [hT65, eL65]
        have h2 : y9.2 = w64.2 := by rw [h2, ew64]
        have hk : (xt G L65).2.1 a = 1 := by rw [eL65]; exact xt_k _ hc hk
        have hc : a < (xt G L65).1 := by rw [eL65]; exact xt_l _ hc
        have hk2 : (xt G L65).2.1 b2 = 8 := by rw [eL65]; exact xt_k _ hc2 hk2
        have hc2 : b2 < (xt G L65).1 := by rw [eL65]; exact xt_l _ hc2
        have hk4 : (xt G L65).2.1 b4 = 5 := by rw [eL65]; exact xt_k _ hc4 hk4
        have hc4 : b4 < (xt G L65).1 := by rw [eL65]; exact xt_l _ hc4
        obtain rfl := Option.some.inj hF
        have e1 : L11 = L65 := by rw [hT]; exact List.append_nil _
        have e2 : y9.2 = y63.2 := h2
        rw [e1] at J9
        try rw [e2] at J9
        exact J9 _ hag _ _ _ hP hD hS (lv_sub hl [0, 1] rfl)
      clear hF
      obtain ⟨w67, hw67⟩ : ∃ z, z = y63 := ⟨_, rfl⟩
      have hF := hy63
      rw [← hw67] at hF
      clear hy63
      have hT : L65 = [] ++ w67.1 := by rw [eL65, hw67]
      have h2 : y63.2 = w67.2 := by rw [hw67]
      have hbl := hbl65
      refine lv_icmp_ne (tgt := 108) hx hb dX1_takeUnit_50 (by decide) (fun c68 => ?_) (fun c68 => ?_)
      · rw [if_neg c68] at hF
        refine lv_iload hx hb dX1_takeUnit_108 (lv_at hl 0 rfl) ?_
        refine lv_bipush (v := (7 : Int32)) hx hb dX1_takeUnit_110 (by decide) ?_
        obtain ⟨y69, hy69, hF⟩ := bnd_some hF
        obtain ⟨w70, hF, ew70⟩ := app_some hF
        obtain ⟨L71, eL71, hF⟩ := ltt_some hF
        have hT71 : L65 = ([] ++ y69.1) ++ w70.1 := by rw [hT, ew70]; simp only [List.append_assoc]
        have hbl71 : L71.length ≤ y.1.length ∧ wt L71 ≤ wt y.1 := by rw [eL71]; exact room_d hT71 hbl
        have J69 : ∀ (ad72 : Nat → Nat), agr G.1 ad ad72 → ∀ (H : Heap) (locs : List Loc) (ls : Array Slot), va_P D classes (wld ct ad72 (xt G L71) y69.2) H → va_D A (wld ct ad72 (xt G L71) y69.2) → va_S A s.heap H locs → lv_has ls 6 [(1, va_re ad72 p0), (2, .int p1)] → W p l e (headSpec wuX1_takeUnit ({ frames := 7, cells := y.1.length, slots := wt y.1, locals := 199 })).room s m ([.ref (ad a), va_re ad p0, .int p1] : List Value).toArray below meth c H locs (L71 : NN).length (wt L71) (MQ below (va_Qv (fun (u : Nat → Nat) => agr G.1 ad u) (fun u t => kE D ct u (xt G y.1) A y.2 t) A) ([.ref (ad a), va_re ad p0, .int p1] : List Value).toArray s y.1.length (wt y.1) A) (F0 m 141 ls []) := by
          intro ad72 hag H locs ls hP hD hS hl
          have hT : L65 = L71 ++ w70.1 := by rw [hT71, eL71]
          have h2 : y63.2 = w70.2 := by rw [h2, ew70]
          have hk : (xt G L71).2.1 a = 1 := by rw [eL71]; exact xt_k _ hc hk
          have hc : a < (xt G L71).1 := by rw [eL71]; exact xt_l _ hc
          have hk2 : (xt G L71).2.1 b2 = 8 := by rw [eL71]; exact xt_k _ hc2 hk2
          have hc2 : b2 < (xt G L71).1 := by rw [eL71]; exact xt_l _ hc2
          have hk4 : (xt G L71).2.1 b4 = 5 := by rw [eL71]; exact xt_k _ hc4 hk4
          have hc4 : b4 < (xt G L71).1 := by rw [eL71]; exact xt_l _ hc4
          obtain rfl := Option.some.inj hF
          have e1 : L65 = L71 := by rw [hT]; exact List.append_nil _
          have e2 : y63.2 = y69.2 := h2
          rw [e1] at J63
          try rw [e2] at J63
          exact J63 _ hag _ _ _ hP hD hS (lv_sub hl [0, 1] rfl)
        clear hF
        obtain ⟨w73, hw73⟩ : ∃ z, z = y69 := ⟨_, rfl⟩
        have hF := hy69
        rw [← hw73] at hF
        clear hy69
        have hT : L71 = [] ++ w73.1 := by rw [eL71, hw73]
        have h2 : y69.2 = w73.2 := by rw [hw73]
        have hbl := hbl71
        refine lv_icmp_ne (tgt := 126) hx hb dX1_takeUnit_112 (by decide) (fun c74 => ?_) (fun c74 => ?_)
        · rw [if_neg c74] at hF
          refine lv_iload hx hb dX1_takeUnit_126 (lv_at hl 0 rfl) ?_
          refine lv_bipush (v := (8 : Int32)) hx hb dX1_takeUnit_128 (by decide) ?_
          obtain ⟨y75, hy75, hF⟩ := bnd_some hF
          obtain ⟨w76, hF, ew76⟩ := app_some hF
          obtain ⟨L77, eL77, hF⟩ := ltt_some hF
          have hT77 : L71 = ([] ++ y75.1) ++ w76.1 := by rw [hT, ew76]; simp only [List.append_assoc]
          have hbl77 : L77.length ≤ y.1.length ∧ wt L77 ≤ wt y.1 := by rw [eL77]; exact room_d hT77 hbl
          have J75 : ∀ (ad78 : Nat → Nat), agr G.1 ad ad78 → ∀ (H : Heap) (locs : List Loc) (ls : Array Slot), va_P D classes (wld ct ad78 (xt G L77) y75.2) H → va_D A (wld ct ad78 (xt G L77) y75.2) → va_S A s.heap H locs → lv_has ls 6 [(1, va_re ad78 p0), (2, .int p1)] → W p l e (headSpec wuX1_takeUnit ({ frames := 7, cells := y.1.length, slots := wt y.1, locals := 199 })).room s m ([.ref (ad a), va_re ad p0, .int p1] : List Value).toArray below meth c H locs (L77 : NN).length (wt L77) (MQ below (va_Qv (fun (u : Nat → Nat) => agr G.1 ad u) (fun u t => kE D ct u (xt G y.1) A y.2 t) A) ([.ref (ad a), va_re ad p0, .int p1] : List Value).toArray s y.1.length (wt y.1) A) (F0 m 141 ls []) := by
            intro ad78 hag H locs ls hP hD hS hl
            have hT : L71 = L77 ++ w76.1 := by rw [hT77, eL77]
            have h2 : y69.2 = w76.2 := by rw [h2, ew76]
            have hk : (xt G L77).2.1 a = 1 := by rw [eL77]; exact xt_k _ hc hk
            have hc : a < (xt G L77).1 := by rw [eL77]; exact xt_l _ hc
            have hk2 : (xt G L77).2.1 b2 = 8 := by rw [eL77]; exact xt_k _ hc2 hk2
            have hc2 : b2 < (xt G L77).1 := by rw [eL77]; exact xt_l _ hc2
            have hk4 : (xt G L77).2.1 b4 = 5 := by rw [eL77]; exact xt_k _ hc4 hk4
            have hc4 : b4 < (xt G L77).1 := by rw [eL77]; exact xt_l _ hc4
            obtain rfl := Option.some.inj hF
            have e1 : L71 = L77 := by rw [hT]; exact List.append_nil _
            have e2 : y69.2 = y75.2 := h2
            rw [e1] at J69
            try rw [e2] at J69
            exact J69 _ hag _ _ _ hP hD hS (lv_sub hl [0, 1] rfl)
          clear hF
          obtain ⟨w79, hw79⟩ : ∃ z, z = y75 := ⟨_, rfl⟩
          have hF := hy75
          rw [← hw79] at hF
          clear hy75
          have hT : L77 = [] ++ w79.1 := by rw [eL77, hw79]
          have h2 : y75.2 = w79.2 := by rw [hw79]
          have hbl := hbl77
          refine lv_icmp_ne (tgt := 141) hx hb dX1_takeUnit_130 (by decide) (fun c80 => ?_) (fun c80 => ?_)
          · rw [if_neg c80] at hF
            obtain rfl := Option.some.inj hF
            have e1 : L77 = [] := by rw [hT]; exact List.append_nil _
            have e2 : y75.2 = M8 := h2
            rw [e1] at J75
            try rw [e2] at J75
            exact J75 _ hag _ _ _ hP hD hS (lv_sub hl [3, 4] rfl)
          · rw [if_pos c80] at hF
            refine lv_aload_n hx hb dX1_takeUnit_133 rfl (lv_at hl 2 rfl) ?_
            obtain ⟨hq82, hF⟩ := chk_some hF
            obtain ⟨y81, hy81, hF⟩ := bnd_some hF
            obtain ⟨w83, hF, ew83⟩ := app_some hF
            obtain ⟨L84, eL84, hF⟩ := ltt_some hF
            have hT84 : L77 = ([] ++ y81.1) ++ w83.1 := by rw [hT, ew83]; simp only [List.append_assoc]
            have hf9 := wA_in hD hA9 hS
            refine va_callv (va_runV (As := []) (rest := []) ⟨hx, hb, hml, hown, hts⟩ (kX1_endPicture l D ct ad Z (xt G []) M8 _ a y81 hc hk hy81) (cwV 0 hts gX1_takeUnit_X1_endPicture rfl rfl rfl (by decide +kernel) ⟨Nat.le_of_ble_eq_true rfl, Nat.le_of_ble_eq_true rfl⟩) ⟨fun a U g mk q => by obtain ⟨q0, q1, qP, qK, qD, qZ, qN⟩ := q; exact ⟨q0, q1, qP, va_K.moved (u := U) (U := U.calling g mk a) (Vm.Alike.refl U.vm) qK, qD, sF.moved (u := U) (U := U.calling g mk a) (Vm.Alike.refl U.vm) qZ, nF.same rfl qN⟩, va_recv hK hP (ci := 1) (q0 := a) rfl (wld_o ct ad (xt G []) M8 hc hk (by decide)), fun U hU hW => ⟨rfl, by rw [hU], by rw [hU]; exact hP, va_K.moved hW.alike hK, hD.weaken (fun _ _ _ _ => trivial), by rw [hU]; exact ((hZ.kept hS.2.1).narrow hf9).moved hW.alike, hN.warm hW⟩⟩ rfl rfl hl.1 rfl (lv_room (Nat.le_of_ble_eq_true rfl)) dX1_takeUnit_134 (room_s hT84 hbl)) hS (fun q _ h => hf9 q h) hf9 (fun ad85 t H locs ht hvm hw hB hz1 hk1 hS => ?_)
            have hn86 := hw
            obtain ⟨hP, hK9, hD9⟩ := hB
            rw [ht] at hP
            have hD := hD9.weaken (fun _ q _ h => hf9 q.1 h)
            rw [xt_xt, ← eL84] at hP hD
            refine W_cs (k := L84.length) (n := wt L84) (by rw [eL84]; exact (len_s [] y81.1).symm) (by rw [eL84]; exact (wt_app [] y81.1).symm) ?_
            have hT : L77 = L84 ++ w83.1 := by rw [hT84, eL84]
            have h2 : y75.2 = w83.2 := by rw [h2, ew83]
            have hl := lv_sub (l' := [(0, .ref (ad a)), (1, va_re ad p0), (2, .int p1)]) hl [2, 3, 4] rfl
            have e9 : ([(0, .ref (ad a)), (1, va_re ad p0), (2, .int p1)] : List (Nat × Value)) = [(0, .ref (ad85 a)), (1, va_re ad85 p0), (2, .int p1)] := (by first | rfl | simp only [hn86 a hc, agr_re hn86 hq82])
            rw [e9] at hl
            clear e9
            have hk : (xt G L84).2.1 a = 1 := by rw [eL84]; exact xt_k _ hc hk
            have hc : a < (xt G L84).1 := by rw [eL84]; exact xt_l _ hc
            have hk2 : (xt G L84).2.1 b2 = 8 := by rw [eL84]; exact xt_k _ hc2 hk2
            have hc2 : b2 < (xt G L84).1 := by rw [eL84]; exact xt_l _ hc2
            have hk4 : (xt G L84).2.1 b4 = 5 := by rw [eL84]; exact xt_k _ hc4 hk4
            have hc4 : b4 < (xt G L84).1 := by rw [eL84]; exact xt_l _ hc4
            have hag := agr_t (xt_ge _ _) hag hn86
            refine lv_aload_n hx hb dX1_takeUnit_137 rfl (lv_at hl 0 rfl) ?_
            obtain ⟨y87, hy87, hF⟩ := bnd_some hF
            have hf9 := wA_in hD hA9 hS
            refine va_callv (va_runV (As := []) (rest := []) ⟨hx, hb, hml, hown, hts⟩ (kX1_readParameters l D ct ad85 Z (xt G L84) y81.2 H.size a y87 hc hk hy87) (cwV 0 hts gX1_takeUnit_X1_readParameters rfl rfl rfl (by decide +kernel) ⟨Nat.le_of_ble_eq_true rfl, Nat.le_of_ble_eq_true rfl⟩) ⟨fun a U g mk q => by obtain ⟨q0, q1, qP, qK, qD, qZ, qN⟩ := q; exact ⟨q0, q1, qP, va_K.moved (u := U) (U := U.calling g mk a) (Vm.Alike.refl U.vm) qK, qD, sF.moved (u := U) (U := U.calling g mk a) (Vm.Alike.refl U.vm) qZ, nF.same rfl qN⟩, va_recv hK hP (ci := 1) (q0 := a) rfl (wld_o ct ad85 (xt G L84) y81.2 hc hk (by decide)), fun U hU hW => ⟨rfl, by rw [hU], by rw [hU]; exact hP, va_K.moved hW.alike hK, hD.weaken (fun _ _ _ _ => trivial), by rw [hU]; exact ((hZ.kept hS.2.1).narrow hf9).moved hW.alike, hN.warm hW⟩⟩ rfl rfl hl.1 rfl (lv_room (Nat.le_of_ble_eq_true rfl)) dX1_takeUnit_138 (room_d hT hbl)) hS (fun q _ h => hf9 q h) hf9 (fun u t H locs ht hvm hw hB hz1 hk1 hS => ?_)
            obtain ⟨hP, hK9, hD9⟩ := hB
            rw [ht] at hP
            refine W_cs (k := (L84 : NN).length) (n := wt L84) rfl rfl ?_
            have hD := hD9.weaken (fun _ q _ h => hf9 q.1 h)
            obtain rfl := Option.some.inj hF
            have e1 : L77 = L84 := by rw [hT]; exact List.append_nil _
            have e2 : y75.2 = y87 := h2
            rw [e1] at J75
            try rw [e2] at J75
            exact J75 _ hag _ _ _ hP hD hS (lv_sub hl [1, 2] rfl)
        · rw [if_pos c74] at hF
          refine lv_aload_n hx hb dX1_takeUnit_115 rfl (lv_at hl 2 rfl) ?_
          obtain ⟨hq89, hF⟩ := chk_some hF
          obtain ⟨y88, hy88, hF⟩ := bnd_some hF
          obtain ⟨w90, hF, ew90⟩ := app_some hF
          obtain ⟨L91, eL91, hF⟩ := ltt_some hF
          have hT91 : L71 = ([] ++ y88.1) ++ w90.1 := by rw [hT, ew90]; simp only [List.append_assoc]
          have hf9 := wA_in hD hA9 hS
          refine va_callv (va_runV (As := []) (rest := []) ⟨hx, hb, hml, hown, hts⟩ (kX1_endPicture l D ct ad Z (xt G []) M8 _ a y88 hc hk hy88) (cwV 0 hts gX1_takeUnit_X1_endPicture rfl rfl rfl (by decide +kernel) ⟨Nat.le_of_ble_eq_true rfl, Nat.le_of_ble_eq_true rfl⟩) ⟨fun a U g mk q => by obtain ⟨q0, q1, qP, qK, qD, qZ, qN⟩ := q; exact ⟨q0, q1, qP, va_K.moved (u := U) (U := U.calling g mk a) (Vm.Alike.refl U.vm) qK, qD, sF.moved (u := U) (U := U.calling g mk a) (Vm.Alike.refl U.vm) qZ, nF.same rfl qN⟩, va_recv hK hP (ci := 1) (q0 := a) rfl (wld_o ct ad (xt G []) M8 hc hk (by decide)), fun U hU hW => ⟨rfl, by rw [hU], by rw [hU]; exact hP, va_K.moved hW.alike hK, hD.weaken (fun _ _ _ _ => trivial), by rw [hU]; exact ((hZ.kept hS.2.1).narrow hf9).moved hW.alike, hN.warm hW⟩⟩ rfl rfl hl.1 rfl (lv_room (Nat.le_of_ble_eq_true rfl)) dX1_takeUnit_116 (room_s hT91 hbl)) hS (fun q _ h => hf9 q h) hf9 (fun ad92 t H locs ht hvm hw hB hz1 hk1 hS => ?_)
          have hn93 := hw
          obtain ⟨hP, hK9, hD9⟩ := hB
          rw [ht] at hP
          have hD := hD9.weaken (fun _ q _ h => hf9 q.1 h)
          rw [xt_xt, ← eL91] at hP hD
          refine W_cs (k := L91.length) (n := wt L91) (by rw [eL91]; exact (len_s [] y88.1).symm) (by rw [eL91]; exact (wt_app [] y88.1).symm) ?_
          have hT : L71 = L91 ++ w90.1 := by rw [hT91, eL91]
          have h2 : y69.2 = w90.2 := by rw [h2, ew90]
          have hl := lv_sub (l' := [(0, .ref (ad a)), (1, va_re ad p0), (2, .int p1)]) hl [2, 3, 4] rfl
          have e9 : ([(0, .ref (ad a)), (1, va_re ad p0), (2, .int p1)] : List (Nat × Value)) = [(0, .ref (ad92 a)), (1, va_re ad92 p0), (2, .int p1)] := (by first | rfl | simp only [hn93 a hc, agr_re hn93 hq89])
          rw [e9] at hl
          clear e9
          have hk : (xt G L91).2.1 a = 1 := by rw [eL91]; exact xt_k _ hc hk
          have hc : a < (xt G L91).1 := by rw [eL91]; exact xt_l _ hc
          have hk2 : (xt G L91).2.1 b2 = 8 := by rw [eL91]; exact xt_k _ hc2 hk2
          have hc2 : b2 < (xt G L91).1 := by rw [eL91]; exact xt_l _ hc2
          have hk4 : (xt G L91).2.1 b4 = 5 := by rw [eL91]; exact xt_k _ hc4 hk4
          have hc4 : b4 < (xt G L91).1 := by rw [eL91]; exact xt_l _ hc4
          have hag := agr_t (xt_ge _ _) hag hn93
          refine lv_aload_n hx hb dX1_takeUnit_119 rfl (lv_at hl 0 rfl) ?_
          obtain ⟨y94, hy94, hF⟩ := bnd_some hF
          have hf9 := wA_in hD hA9 hS
          refine va_callv (va_runV (As := []) (rest := []) ⟨hx, hb, hml, hown, hts⟩ (kX1_readSequence l D ct ad92 Z (xt G L91) y88.2 H.size a y94 hc hk hy94) (cwV 0 hts gX1_takeUnit_X1_readSequence rfl rfl rfl (by decide +kernel) ⟨Nat.le_of_ble_eq_true rfl, Nat.le_of_ble_eq_true rfl⟩) ⟨fun a U g mk q => by obtain ⟨q0, q1, qP, qK, qD, qZ, qN⟩ := q; exact ⟨q0, q1, qP, va_K.moved (u := U) (U := U.calling g mk a) (Vm.Alike.refl U.vm) qK, qD, sF.moved (u := U) (U := U.calling g mk a) (Vm.Alike.refl U.vm) qZ, nF.same rfl qN⟩, va_recv hK hP (ci := 1) (q0 := a) rfl (wld_o ct ad92 (xt G L91) y88.2 hc hk (by decide)), fun U hU hW => ⟨rfl, by rw [hU], by rw [hU]; exact hP, va_K.moved hW.alike hK, hD.weaken (fun _ _ _ _ => trivial), by rw [hU]; exact ((hZ.kept hS.2.1).narrow hf9).moved hW.alike, hN.warm hW⟩⟩ rfl rfl hl.1 rfl (lv_room (Nat.le_of_ble_eq_true rfl)) dX1_takeUnit_120 (room_d hT hbl)) hS (fun q _ h => hf9 q h) hf9 (fun u t H locs ht hvm hw hB hz1 hk1 hS => ?_)
          obtain ⟨hP, hK9, hD9⟩ := hB
          rw [ht] at hP
          refine W_cs (k := (L91 : NN).length) (n := wt L91) rfl rfl ?_
          have hD := hD9.weaken (fun _ q _ h => hf9 q.1 h)
          refine lv_goto (tgt := 141) hx hb dX1_takeUnit_123 (by decide) ?_
          obtain rfl := Option.some.inj hF
          have e1 : L71 = L91 := by rw [hT]; exact List.append_nil _
          have e2 : y69.2 = y94 := h2
          rw [e1] at J69
          try rw [e2] at J69
          exact J69 _ hag _ _ _ hP hD hS (lv_sub hl [1, 2] rfl)
      · rw [if_pos c68] at hF
        refine lv_aload_n hx hb dX1_takeUnit_53 rfl (lv_at hl 2 rfl) ?_
        refine lv_iload hx hb dX1_takeUnit_54 (lv_at hl 0 rfl) ?_
        refine lv_iload_n hx hb dX1_takeUnit_56 rfl (lv_at hl 1 rfl) ?_
        refine lv_iconst (v := (5 : Int32)) hx hb dX1_takeUnit_57 (by decide) ?_
        refine lv_ishr hx hb dX1_takeUnit_58 ?_
        obtain ⟨x95, ex95, hF⟩ := ltt_some hF
        refine lv_topi (fun zx95 ezx95 => ?_)
        obtain rfl : x95 = zx95 := ex95.trans ezx95.symm
        refine lv_iconst (v := (3 : Int32)) hx hb dX1_takeUnit_59 (by decide) ?_
        refine lv_iand hx hb dX1_takeUnit_60 ?_
        obtain ⟨x96, ex96, hF⟩ := ltt_some hF
        refine lv_topi (fun zx96 ezx96 => ?_)
        obtain rfl : x96 = zx96 := ex96.trans ezx96.symm
        obtain ⟨y97, hy97, hF⟩ := bnd_some hF
        have hf9 := wA_in hD hA9 hS
        refine va_callv (va_runV (As := [.int y7, .int x96]) (rest := []) ⟨hx, hb, hml, hown, hts⟩ (kX1_readHeader l D ct ad Z (xt G []) M8 H.size a y7 x96 y97 hc hk hy97) (cwV 2 hts gX1_takeUnit_X1_readHeader rfl rfl rfl (by decide +kernel) ⟨Nat.le_of_ble_eq_true rfl, Nat.le_of_ble_eq_true rfl⟩) ⟨fun a U g mk q => by obtain ⟨q0, q1, qP, qK, qD, qZ, qN⟩ := q; exact ⟨q0, q1, qP, va_K.moved (u := U) (U := U.calling g mk a) (Vm.Alike.refl U.vm) qK, qD, sF.moved (u := U) (U := U.calling g mk a) (Vm.Alike.refl U.vm) qZ, nF.same rfl qN⟩, va_recv hK hP (ci := 1) (q0 := a) rfl (wld_o ct ad (xt G []) M8 hc hk (by decide)), fun U hU hW => ⟨rfl, by rw [hU], by rw [hU]; exact hP, va_K.moved hW.alike hK, hD.weaken (fun _ _ _ _ => trivial), by rw [hU]; exact ((hZ.kept hS.2.1).narrow hf9).moved hW.alike, hN.warm hW⟩⟩ rfl rfl hl.1 rfl (lv_room (Nat.le_of_ble_eq_true rfl)) dX1_takeUnit_61 (room_d hT hbl)) hS (fun q _ h => hf9 q h) hf9 (fun u t H locs ht hvm hw hB hz1 hk1 hS => ?_)
        obtain ⟨hP, hK9, hD9⟩ := hB
        rw [ht] at hP
        refine W_cs (k := ([] : NN).length) (n := wt []) rfl rfl ?_
        have hD := hD9.weaken (fun _ q _ h => hf9 q.1 h)
        refine lv_aload_n hx hb dX1_takeUnit_64 rfl (lv_at hl 2 rfl) ?_
        refine va_get (D := D) (ci := 1) (v := .int (y97.1 a 16)) (C := RX1) (T := TX1) (N := 22) hx hb hts (mus hf_X1) hown hK hP a (wld_o ct ad (xt G []) y97 hc hk (by decide)) rfl 16 (by decide) (hts (.fieldLink RX1 109 "VideoSuite$Decoder" "underWay" "Z") (mu mw_660)) (fun _ h9 => h9) rfl dX1_takeUnit_65 ?_
        obtain ⟨x98, ex98, hF⟩ := ltt_some hF
        refine lv_topi (fun zx98 ezx98 => ?_)
        obtain rfl : x98 = zx98 := ex98.trans ezx98.symm
        obtain ⟨y99, hy99, hF⟩ := bnd_some hF
        obtain ⟨w100, hF, ew100⟩ := app_some hF
        obtain ⟨L101, eL101, hF⟩ := ltt_some hF
        have hT101 : L65 = ([] ++ y99.1) ++ w100.1 := by rw [hT, ew100]; simp only [List.append_assoc]
        have hbl101 : L101.length ≤ y.1.length ∧ wt L101 ≤ wt y.1 := by rw [eL101]; exact room_d hT101 hbl
        have J99 : ∀ (ad102 : Nat → Nat), agr G.1 ad ad102 → ∀ (H : Heap) (locs : List Loc) (ls : Array Slot), va_P D classes (wld ct ad102 (xt G L101) y99.2) H → va_D A (wld ct ad102 (xt G L101) y99.2) → va_S A s.heap H locs → lv_has ls 6 [(0, .ref (ad102 a)), (1, va_re ad102 p0), (2, .int p1)] → W p l e (headSpec wuX1_takeUnit ({ frames := 7, cells := y.1.length, slots := wt y.1, locals := 199 })).room s m ([.ref (ad a), va_re ad p0, .int p1] : List Value).toArray below meth c H locs (L101 : NN).length (wt L101) (MQ below (va_Qv (fun (u : Nat → Nat) => agr G.1 ad u) (fun u t => kE D ct u (xt G y.1) A y.2 t) A) ([.ref (ad a), va_re ad p0, .int p1] : List Value).toArray s y.1.length (wt y.1) A) (F0 m 97 ls []) := by
          intro ad102 hag H locs ls hP hD hS hl
          have hT : L65 = L101 ++ w100.1 := by rw [hT101, eL101]
          have h2 : y63.2 = w100.2 := by rw [h2, ew100]
          have hk : (xt G L101).2.1 a = 1 := by rw [eL101]; exact xt_k _ hc hk
          have hc : a < (xt G L101).1 := by rw [eL101]; exact xt_l _ hc
          have hk2 : (xt G L101).2.1 b2 = 8 := by rw [eL101]; exact xt_k _ hc2 hk2
          have hc2 : b2 < (xt G L101).1 := by rw [eL101]; exact xt_l _ hc2
          have hk4 : (xt G L101).2.1 b4 = 5 := by rw [eL101]; exact xt_k _ hc4 hk4
          have hc4 : b4 < (xt G L101).1 := by rw [eL101]; exact xt_l _ hc4
          refine lv_aload_n hx hb dX1_takeUnit_97 rfl (lv_at hl 0 rfl) ?_
          obtain ⟨y103, hy103, hF⟩ := bnd_some hF
          have hf9 := wA_in hD hA9 hS
          refine va_callv (va_runV (As := []) (rest := []) ⟨hx, hb, hml, hown, hts⟩ (kX1_beginSlice l D ct ad102 Z (xt G L101) y99.2 H.size a y103 hc hk hy103) (cwV 0 hts gX1_takeUnit_X1_beginSlice rfl rfl rfl (by decide +kernel) ⟨Nat.le_of_ble_eq_true rfl, Nat.le_of_ble_eq_true rfl⟩) ⟨fun a U g mk q => by obtain ⟨q0, q1, qP, qK, qD, qZ, qN⟩ := q; exact ⟨q0, q1, qP, va_K.moved (u := U) (U := U.calling g mk a) (Vm.Alike.refl U.vm) qK, qD, sF.moved (u := U) (U := U.calling g mk a) (Vm.Alike.refl U.vm) qZ, nF.same rfl qN⟩, va_recv hK hP (ci := 1) (q0 := a) rfl (wld_o ct ad102 (xt G L101) y99.2 hc hk (by decide)), fun U hU hW => ⟨rfl, by rw [hU], by rw [hU]; exact hP, va_K.moved hW.alike hK, hD.weaken (fun _ _ _ _ => trivial), by rw [hU]; exact ((hZ.kept hS.2.1).narrow hf9).moved hW.alike, hN.warm hW⟩⟩ rfl rfl hl.1 rfl (lv_room (Nat.le_of_ble_eq_true rfl)) dX1_takeUnit_98 (room_d hT hbl)) hS (fun q _ h => hf9 q h) hf9 (fun u t H locs ht hvm hw hB hz1 hk1 hS => ?_)
          obtain ⟨hP, hK9, hD9⟩ := hB
          rw [ht] at hP
          refine W_cs (k := (L101 : NN).length) (n := wt L101) rfl rfl ?_
          have hD := hD9.weaken (fun _ q _ h => hf9 q.1 h)
          refine lv_aload_n hx hb dX1_takeUnit_101 rfl (lv_at hl 0 rfl) ?_
          obtain ⟨y104, hy104, hF⟩ := bnd_some hF
          have hf9 := wA_in hD hA9 hS
          refine va_callv (va_runV (As := []) (rest := []) ⟨hx, hb, hml, hown, hts⟩ (kX1_readData l D ct ad102 Z (xt G L101) y103 H.size a y104 hc hk hy104) (cwV 0 hts gX1_takeUnit_X1_readData rfl rfl rfl (by decide +kernel) ⟨Nat.le_of_ble_eq_true rfl, Nat.le_of_ble_eq_true rfl⟩) ⟨fun a U g mk q => by obtain ⟨q0, q1, qP, qK, qD, qZ, qN⟩ := q; exact ⟨q0, q1, qP, va_K.moved (u := U) (U := U.calling g mk a) (Vm.Alike.refl U.vm) qK, qD, sF.moved (u := U) (U := U.calling g mk a) (Vm.Alike.refl U.vm) qZ, nF.same rfl qN⟩, va_recv hK hP (ci := 1) (q0 := a) rfl (wld_o ct ad102 (xt G L101) y103 hc hk (by decide)), fun U hU hW => ⟨rfl, by rw [hU], by rw [hU]; exact hP, va_K.moved hW.alike hK, hD.weaken (fun _ _ _ _ => trivial), by rw [hU]; exact ((hZ.kept hS.2.1).narrow hf9).moved hW.alike, hN.warm hW⟩⟩ rfl rfl hl.1 rfl (lv_room (Nat.le_of_ble_eq_true rfl)) dX1_takeUnit_102 (room_d hT hbl)) hS (fun q _ h => hf9 q h) hf9 (fun u t H locs ht hvm hw hB hz1 hk1 hS => ?_)
          obtain ⟨hP, hK9, hD9⟩ := hB
          rw [ht] at hP
          refine W_cs (k := (L101 : NN).length) (n := wt L101) rfl rfl ?_
          have hD := hD9.weaken (fun _ q _ h => hf9 q.1 h)
          refine lv_goto (tgt := 141) hx hb dX1_takeUnit_105 (by decide) ?_
          obtain rfl := Option.some.inj hF
          have e1 : L65 = L101 := by rw [hT]; exact List.append_nil _
          have e2 : y63.2 = y104 := h2
          rw [e1] at J63
          try rw [e2] at J63
          exact J63 _ hag _ _ _ hP hD hS (lv_sub hl [1, 2] rfl)
        clear hF
        obtain ⟨w105, hw105⟩ : ∃ z, z = y99 := ⟨_, rfl⟩
        have hF := hy99
        rw [← hw105] at hF
        clear hy99
        have hT : L101 = [] ++ w105.1 := by rw [eL101, hw105]
        have h2 : y99.2 = w105.2 := by rw [hw105]
        have hbl := hbl101
        refine lv_if_eq (tgt := 85) hx hb dX1_takeUnit_68 (by decide) (fun c106 => ?_) (fun c106 => ?_)
        · rw [if_pos c106] at hF
          refine lv_aload_n hx hb dX1_takeUnit_85 rfl (lv_at hl 2 rfl) ?_
          obtain ⟨hq108, hF⟩ := chk_some hF
          obtain ⟨y107, hy107, hF⟩ := bnd_some hF
          obtain ⟨w109, hF, ew109⟩ := app_some hF
          obtain ⟨L110, eL110, hF⟩ := ltt_some hF
          have hT110 : L101 = ([] ++ y107.1) ++ w109.1 := by rw [hT, ew109]; simp only [List.append_assoc]
          have hf9 := wA_in hD hA9 hS
          refine va_callv (va_runV (As := []) (rest := []) ⟨hx, hb, hml, hown, hts⟩ (kX1_endPicture l D ct ad Z (xt G []) y97 _ a y107 hc hk hy107) (cwV 0 hts gX1_takeUnit_X1_endPicture rfl rfl rfl (by decide +kernel) ⟨Nat.le_of_ble_eq_true rfl, Nat.le_of_ble_eq_true rfl⟩) ⟨fun a U g mk q => by obtain ⟨q0, q1, qP, qK, qD, qZ, qN⟩ := q; exact ⟨q0, q1, qP, va_K.moved (u := U) (U := U.calling g mk a) (Vm.Alike.refl U.vm) qK, qD, sF.moved (u := U) (U := U.calling g mk a) (Vm.Alike.refl U.vm) qZ, nF.same rfl qN⟩, va_recv hK hP (ci := 1) (q0 := a) rfl (wld_o ct ad (xt G []) y97 hc hk (by decide)), fun U hU hW => ⟨rfl, by rw [hU], by rw [hU]; exact hP, va_K.moved hW.alike hK, hD.weaken (fun _ _ _ _ => trivial), by rw [hU]; exact ((hZ.kept hS.2.1).narrow hf9).moved hW.alike, hN.warm hW⟩⟩ rfl rfl hl.1 rfl (lv_room (Nat.le_of_ble_eq_true rfl)) dX1_takeUnit_86 (room_s hT110 hbl)) hS (fun q _ h => hf9 q h) hf9 (fun ad111 t H locs ht hvm hw hB hz1 hk1 hS => ?_)
          have hn112 := hw
          obtain ⟨hP, hK9, hD9⟩ := hB
          rw [ht] at hP
          have hD := hD9.weaken (fun _ q _ h => hf9 q.1 h)
          rw [xt_xt, ← eL110] at hP hD
          refine W_cs (k := L110.length) (n := wt L110) (by rw [eL110]; exact (len_s [] y107.1).symm) (by rw [eL110]; exact (wt_app [] y107.1).symm) ?_
          have hT : L101 = L110 ++ w109.1 := by rw [hT110, eL110]
          have h2 : y99.2 = w109.2 := by rw [h2, ew109]
          have hl := lv_sub (l' := [(0, .ref (ad a)), (1, va_re ad p0), (2, .int p1)]) hl [2, 3, 4] rfl
          have e9 : ([(0, .ref (ad a)), (1, va_re ad p0), (2, .int p1)] : List (Nat × Value)) = [(0, .ref (ad111 a)), (1, va_re ad111 p0), (2, .int p1)] := (by first | rfl | simp only [hn112 a hc, agr_re hn112 hq108])
          rw [e9] at hl
          clear e9
          have hk : (xt G L110).2.1 a = 1 := by rw [eL110]; exact xt_k _ hc hk
          have hc : a < (xt G L110).1 := by rw [eL110]; exact xt_l _ hc
          have hk2 : (xt G L110).2.1 b2 = 8 := by rw [eL110]; exact xt_k _ hc2 hk2
          have hc2 : b2 < (xt G L110).1 := by rw [eL110]; exact xt_l _ hc2
          have hk4 : (xt G L110).2.1 b4 = 5 := by rw [eL110]; exact xt_k _ hc4 hk4
          have hc4 : b4 < (xt G L110).1 := by rw [eL110]; exact xt_l _ hc4
          have hag := agr_t (xt_ge _ _) hag hn112
          refine lv_aload_n hx hb dX1_takeUnit_89 rfl (lv_at hl 0 rfl) ?_
          obtain ⟨y113, hy113, hF⟩ := bnd_some hF
          have hf9 := wA_in hD hA9 hS
          refine va_callv (va_runV (As := []) (rest := []) ⟨hx, hb, hml, hown, hts⟩ (kX1_bridge l D ct ad111 Z (xt G L110) y107.2 H.size a y113 hc hk hy113) (cwV 0 hts gX1_takeUnit_X1_bridge rfl rfl rfl (by decide +kernel) ⟨Nat.le_of_ble_eq_true rfl, Nat.le_of_ble_eq_true rfl⟩) ⟨fun a U g mk q => by obtain ⟨q0, q1, qP, qK, qD, qZ, qN⟩ := q; exact ⟨q0, q1, qP, va_K.moved (u := U) (U := U.calling g mk a) (Vm.Alike.refl U.vm) qK, qD, sF.moved (u := U) (U := U.calling g mk a) (Vm.Alike.refl U.vm) qZ, nF.same rfl qN⟩, va_recv hK hP (ci := 1) (q0 := a) rfl (wld_o ct ad111 (xt G L110) y107.2 hc hk (by decide)), fun U hU hW => ⟨rfl, by rw [hU], by rw [hU]; exact hP, va_K.moved hW.alike hK, hD.weaken (fun _ _ _ _ => trivial), by rw [hU]; exact ((hZ.kept hS.2.1).narrow hf9).moved hW.alike, hN.warm hW⟩⟩ rfl rfl hl.1 rfl (lv_room (Nat.le_of_ble_eq_true rfl)) dX1_takeUnit_90 (room_d hT hbl)) hS (fun q _ h => hf9 q h) hf9 (fun u t H locs ht hvm hw hB hz1 hk1 hS => ?_)
          obtain ⟨hP, hK9, hD9⟩ := hB
          rw [ht] at hP
          refine W_cs (k := (L110 : NN).length) (n := wt L110) rfl rfl ?_
          have hD := hD9.weaken (fun _ q _ h => hf9 q.1 h)
          refine lv_aload_n hx hb dX1_takeUnit_93 rfl (lv_at hl 0 rfl) ?_
          obtain ⟨hq115, hF⟩ := chk_some hF
          obtain ⟨y114, hy114, hF⟩ := bnd_some hF
          obtain ⟨w116, hF, ew116⟩ := app_some hF
          obtain ⟨L117, eL117, hF⟩ := ltt_some hF
          have hT117 : L101 = (L110 ++ y114.1) ++ w116.1 := by rw [hT, ew116]; simp only [List.append_assoc]
          have hf9 := wA_in hD hA9 hS
          refine va_callv (va_runV (As := []) (rest := []) ⟨hx, hb, hml, hown, hts⟩ (kX1_beginPicture l D ct ad111 Z (xt G L110) y113 _ a y114 hc hk hy114) (cwV 0 hts gX1_takeUnit_X1_beginPicture rfl rfl rfl (by decide +kernel) ⟨Nat.le_of_ble_eq_true rfl, Nat.le_of_ble_eq_true rfl⟩) ⟨fun a U g mk q => by obtain ⟨q0, q1, qP, qK, qD, qZ, qN⟩ := q; exact ⟨q0, q1, qP, va_K.moved (u := U) (U := U.calling g mk a) (Vm.Alike.refl U.vm) qK, qD, sF.moved (u := U) (U := U.calling g mk a) (Vm.Alike.refl U.vm) qZ, nF.same rfl qN⟩, va_recv hK hP (ci := 1) (q0 := a) rfl (wld_o ct ad111 (xt G L110) y113 hc hk (by decide)), fun U hU hW => ⟨rfl, by rw [hU], by rw [hU]; exact hP, va_K.moved hW.alike hK, hD.weaken (fun _ _ _ _ => trivial), by rw [hU]; exact ((hZ.kept hS.2.1).narrow hf9).moved hW.alike, hN.warm hW⟩⟩ rfl rfl hl.1 rfl (lv_room (Nat.le_of_ble_eq_true rfl)) dX1_takeUnit_94 (room_s hT117 hbl)) hS (fun q _ h => hf9 q h) hf9 (fun ad118 t H locs ht hvm hw hB hz1 hk1 hS => ?_)
          have hn119 := hw
          obtain ⟨hP, hK9, hD9⟩ := hB
          rw [ht] at hP
          have hD := hD9.weaken (fun _ q _ h => hf9 q.1 h)
          rw [xt_xt, ← eL117] at hP hD
          refine W_cs (k := L117.length) (n := wt L117) (by rw [eL117]; exact (len_s L110 y114.1).symm) (by rw [eL117]; exact (wt_app L110 y114.1).symm) ?_
          have hT : L101 = L117 ++ w116.1 := by rw [hT117, eL117]
          have h2 : y99.2 = w116.2 := by rw [h2, ew116]
          have hl := lv_sub (l' := [(0, .ref (ad111 a)), (1, va_re ad111 p0), (2, .int p1)]) hl [0, 1, 2] rfl
          have e9 : ([(0, .ref (ad111 a)), (1, va_re ad111 p0), (2, .int p1)] : List (Nat × Value)) = [(0, .ref (ad118 a)), (1, va_re ad118 p0), (2, .int p1)] := (by first | rfl | simp only [hn119 a hc, agr_re hn119 hq115])
          rw [e9] at hl
          clear e9
          have hk : (xt G L117).2.1 a = 1 := by rw [eL117]; exact xt_k _ hc hk
          have hc : a < (xt G L117).1 := by rw [eL117]; exact xt_l _ hc
          have hk2 : (xt G L117).2.1 b2 = 8 := by rw [eL117]; exact xt_k _ hc2 hk2
          have hc2 : b2 < (xt G L117).1 := by rw [eL117]; exact xt_l _ hc2
          have hk4 : (xt G L117).2.1 b4 = 5 := by rw [eL117]; exact xt_k _ hc4 hk4
          have hc4 : b4 < (xt G L117).1 := by rw [eL117]; exact xt_l _ hc4
          have hag := agr_t (xt_ge _ _) hag hn119
          obtain rfl := Option.some.inj hF
          have e1 : L101 = L117 := by rw [hT]; exact List.append_nil _
          have e2 : y99.2 = y114.2 := h2
          rw [e1] at J99
          try rw [e2] at J99
          exact J99 _ hag _ _ _ hP hD hS (lv_sub hl [0, 1, 2] rfl)
        · rw [if_neg c106] at hF
          refine lv_aload_n hx hb dX1_takeUnit_71 rfl (lv_at hl 2 rfl) ?_
          refine va_get (D := D) (ci := 1) (v := va_re ad (y97.2 a 10)) (C := RX1) (T := TX1) (N := 22) hx hb hts (mus hf_X1) hown hK hP a (wld_o ct ad (xt G []) y97 hc hk (by decide)) rfl 10 (by decide) (hts (.fieldLink RX1 68 "VideoSuite$Decoder" "head" "LVideoSuite$Header;") (mu mw_652)) (fun _ h9 => h9) rfl dX1_takeUnit_72 ?_
          refine lv_aload_n hx hb dX1_takeUnit_75 rfl (lv_at hl 2 rfl) ?_
          refine va_get (D := D) (ci := 1) (v := va_re ad (y97.2 a 11)) (C := RX1) (T := TX1) (N := 22) hx hb hts (mus hf_X1) hown hK hP a (wld_o ct ad (xt G []) y97 hc hk (by decide)) rfl 11 (by decide) (hts (.fieldLink RX1 72 "VideoSuite$Decoder" "latest" "LVideoSuite$Header;") (mu mw_653)) (fun _ h9 => h9) rfl dX1_takeUnit_76 ?_
          obtain ⟨b120, ho120, hc120, hk120, hF⟩ := dr_some hF
          refine W_st (st' := [va_re ad (y97.2 a 11), .ref (ad b120)]) (by rw [va_some ho120]) ?_
          obtain ⟨y121, hy121, hF⟩ := bnd_some hF
          have hf9 := wA_in hD hA9 hS
          refine va_calli (va_runV (As := [va_re ad (y97.2 a 11)]) (rest := []) ⟨hx, hb, hml, hown, hts⟩ (kX3_beginsBehind l D ct ad Z (xt G []) y97 H.size b120 ((y97.2 a 11)) y121 hc120 hk120 hy121) (cwV 1 hts gX1_takeUnit_X3_beginsBehind rfl rfl rfl (by decide +kernel) ⟨Nat.le_of_ble_eq_true rfl, Nat.le_of_ble_eq_true rfl⟩) ⟨fun a U g mk q => by obtain ⟨q0, q1, qP, qK, qD, qZ, qN⟩ := q; exact ⟨q0, q1, qP, va_K.moved (u := U) (U := U.calling g mk a) (Vm.Alike.refl U.vm) qK, qD, sF.moved (u := U) (U := U.calling g mk a) (Vm.Alike.refl U.vm) qZ, nF.same rfl qN⟩, va_recv hK hP (ci := 3) (q0 := b120) rfl (wld_o ct ad (xt G []) y97 hc120 hk120 (by decide)), fun U hU hW => ⟨rfl, by rw [hU], by rw [hU]; exact hP, va_K.moved hW.alike hK, hD.weaken (fun _ _ _ _ => trivial), by rw [hU]; exact ((hZ.kept hS.2.1).narrow hf9).moved hW.alike, hN.warm hW⟩⟩ rfl rfl hl.1 rfl (lv_room (Nat.le_of_ble_eq_true rfl)) dX1_takeUnit_79 (room_d hT hbl)) hS (fun q _ h => hf9 q h) hf9 (fun r u t H locs ht hvm hw hB hz1 hk1 hS => ?_)
          obtain ⟨hP, hK9, hD9⟩ := hB
          rw [ht] at hP
          try dsimp only at hw
          subst hw
          refine W_cs (k := ([] : NN).length) (n := wt []) rfl rfl ?_
          have hD := hD9.weaken (fun _ q _ h => hf9 q.1 h)
          obtain ⟨y122, hy122, hF⟩ := bnd_some hF
          obtain ⟨w123, hF, ew123⟩ := app_some hF
          obtain ⟨L124, eL124, hF⟩ := ltt_some hF
          have hT124 : L101 = ([] ++ y122.1) ++ w123.1 := by rw [hT, ew123]; simp only [List.append_assoc]
          have hbl124 : L124.length ≤ y.1.length ∧ wt L124 ≤ wt y.1 := by rw [eL124]; exact room_d hT124 hbl
          have J122 : ∀ (ad125 : Nat → Nat), agr G.1 ad ad125 → ∀ (H : Heap) (locs : List Loc) (ls : Array Slot), va_P D classes (wld ct ad125 (xt G L124) y122.2) H → va_D A (wld ct ad125 (xt G L124) y122.2) → va_S A s.heap H locs → lv_has ls 6 [(0, .ref (ad125 a)), (1, va_re ad125 p0), (2, .int p1)] → W p l e (headSpec wuX1_takeUnit ({ frames := 7, cells := y.1.length, slots := wt y.1, locals := 199 })).room s m ([.ref (ad a), va_re ad p0, .int p1] : List Value).toArray below meth c H locs (L124 : NN).length (wt L124) (MQ below (va_Qv (fun (u : Nat → Nat) => agr G.1 ad u) (fun u t => kE D ct u (xt G y.1) A y.2 t) A) ([.ref (ad a), va_re ad p0, .int p1] : List Value).toArray s y.1.length (wt y.1) A) (F0 m 97 ls []) := by
            intro ad125 hag H locs ls hP hD hS hl
            have hT : L101 = L124 ++ w123.1 := by rw [hT124, eL124]
            have h2 : y99.2 = w123.2 := by rw [h2, ew123]
            have hk : (xt G L124).2.1 a = 1 := by rw [eL124]; exact xt_k _ hc hk
            have hc : a < (xt G L124).1 := by rw [eL124]; exact xt_l _ hc
            have hk2 : (xt G L124).2.1 b2 = 8 := by rw [eL124]; exact xt_k _ hc2 hk2
            have hc2 : b2 < (xt G L124).1 := by rw [eL124]; exact xt_l _ hc2
            have hk4 : (xt G L124).2.1 b4 = 5 := by rw [eL124]; exact xt_k _ hc4 hk4
            have hc4 : b4 < (xt G L124).1 := by rw [eL124]; exact xt_l _ hc4
            have hk120 : (xt G L124).2.1 b120 = 3 := by rw [eL124]; exact xt_k _ hc120 hk120
            have hc120 : b120 < (xt G L124).1 := by rw [eL124]; exact xt_l _ hc120
            obtain rfl := Option.some.inj hF
            have e1 : L101 = L124 := by rw [hT]; exact List.append_nil _
            have e2 : y99.2 = y122.2 := h2
            rw [e1] at J99
            try rw [e2] at J99
            exact J99 _ hag _ _ _ hP hD hS (lv_sub hl [0, 1, 2] rfl)
          clear hF
          obtain ⟨w126, hw126⟩ : ∃ z, z = y122 := ⟨_, rfl⟩
          have hF := hy122
          rw [← hw126] at hF
          clear hy122
          have hT : L124 = [] ++ w126.1 := by rw [eL124, hw126]
          have h2 : y122.2 = w126.2 := by rw [hw126]
          have hbl := hbl124
          refine lv_if_eq (tgt := 97) hx hb dX1_takeUnit_82 (by decide) (fun c127 => ?_) (fun c127 => ?_)
          · rw [if_pos c127] at hF
            obtain rfl := Option.some.inj hF
            have e1 : L124 = [] := by rw [hT]; exact List.append_nil _
            have e2 : y122.2 = y121.1 := h2
            rw [e1] at J122
            try rw [e2] at J122
            exact J122 _ hag _ _ _ hP hD hS (lv_sub hl [2, 3, 4] rfl)
          · rw [if_neg c127] at hF
            refine lv_aload_n hx hb dX1_takeUnit_85 rfl (lv_at hl 2 rfl) ?_
            obtain ⟨hq129, hF⟩ := chk_some hF
            obtain ⟨y128, hy128, hF⟩ := bnd_some hF
            obtain ⟨w130, hF, ew130⟩ := app_some hF
            obtain ⟨L131, eL131, hF⟩ := ltt_some hF
            have hT131 : L124 = ([] ++ y128.1) ++ w130.1 := by rw [hT, ew130]; simp only [List.append_assoc]
            have hf9 := wA_in hD hA9 hS
            refine va_callv (va_runV (As := []) (rest := []) ⟨hx, hb, hml, hown, hts⟩ (kX1_endPicture l D ct ad Z (xt G []) y121.1 _ a y128 hc hk hy128) (cwV 0 hts gX1_takeUnit_X1_endPicture rfl rfl rfl (by decide +kernel) ⟨Nat.le_of_ble_eq_true rfl, Nat.le_of_ble_eq_true rfl⟩) ⟨fun a U g mk q => by obtain ⟨q0, q1, qP, qK, qD, qZ, qN⟩ := q; exact ⟨q0, q1, qP, va_K.moved (u := U) (U := U.calling g mk a) (Vm.Alike.refl U.vm) qK, qD, sF.moved (u := U) (U := U.calling g mk a) (Vm.Alike.refl U.vm) qZ, nF.same rfl qN⟩, va_recv hK hP (ci := 1) (q0 := a) rfl (wld_o ct ad (xt G []) y121.1 hc hk (by decide)), fun U hU hW => ⟨rfl, by rw [hU], by rw [hU]; exact hP, va_K.moved hW.alike hK, hD.weaken (fun _ _ _ _ => trivial), by rw [hU]; exact ((hZ.kept hS.2.1).narrow hf9).moved hW.alike, hN.warm hW⟩⟩ rfl rfl hl.1 rfl (lv_room (Nat.le_of_ble_eq_true rfl)) dX1_takeUnit_86 (room_s hT131 hbl)) hS (fun q _ h => hf9 q h) hf9 (fun ad132 t H locs ht hvm hw hB hz1 hk1 hS => ?_)
            have hn133 := hw
            obtain ⟨hP, hK9, hD9⟩ := hB
            rw [ht] at hP
            have hD := hD9.weaken (fun _ q _ h => hf9 q.1 h)
            rw [xt_xt, ← eL131] at hP hD
            refine W_cs (k := L131.length) (n := wt L131) (by rw [eL131]; exact (len_s [] y128.1).symm) (by rw [eL131]; exact (wt_app [] y128.1).symm) ?_
            have hT : L124 = L131 ++ w130.1 := by rw [hT131, eL131]
            have h2 : y122.2 = w130.2 := by rw [h2, ew130]
            have hl := lv_sub (l' := [(0, .ref (ad a)), (1, va_re ad p0), (2, .int p1)]) hl [2, 3, 4] rfl
            have e9 : ([(0, .ref (ad a)), (1, va_re ad p0), (2, .int p1)] : List (Nat × Value)) = [(0, .ref (ad132 a)), (1, va_re ad132 p0), (2, .int p1)] := (by first | rfl | simp only [hn133 a hc, agr_re hn133 hq129])
            rw [e9] at hl
            clear e9
            have hk : (xt G L131).2.1 a = 1 := by rw [eL131]; exact xt_k _ hc hk
            have hc : a < (xt G L131).1 := by rw [eL131]; exact xt_l _ hc
            have hk2 : (xt G L131).2.1 b2 = 8 := by rw [eL131]; exact xt_k _ hc2 hk2
            have hc2 : b2 < (xt G L131).1 := by rw [eL131]; exact xt_l _ hc2
            have hk4 : (xt G L131).2.1 b4 = 5 := by rw [eL131]; exact xt_k _ hc4 hk4
            have hc4 : b4 < (xt G L131).1 := by rw [eL131]; exact xt_l _ hc4
            have hk120 : (xt G L131).2.1 b120 = 3 := by rw [eL131]; exact xt_k _ hc120 hk120
            have hc120 : b120 < (xt G L131).1 := by rw [eL131]; exact xt_l _ hc120
            have hag := agr_t (xt_ge _ _) hag hn133
            refine lv_aload_n hx hb dX1_takeUnit_89 rfl (lv_at hl 0 rfl) ?_
            obtain ⟨y134, hy134, hF⟩ := bnd_some hF
            have hf9 := wA_in hD hA9 hS
            refine va_callv (va_runV (As := []) (rest := []) ⟨hx, hb, hml, hown, hts⟩ (kX1_bridge l D ct ad132 Z (xt G L131) y128.2 H.size a y134 hc hk hy134) (cwV 0 hts gX1_takeUnit_X1_bridge rfl rfl rfl (by decide +kernel) ⟨Nat.le_of_ble_eq_true rfl, Nat.le_of_ble_eq_true rfl⟩) ⟨fun a U g mk q => by obtain ⟨q0, q1, qP, qK, qD, qZ, qN⟩ := q; exact ⟨q0, q1, qP, va_K.moved (u := U) (U := U.calling g mk a) (Vm.Alike.refl U.vm) qK, qD, sF.moved (u := U) (U := U.calling g mk a) (Vm.Alike.refl U.vm) qZ, nF.same rfl qN⟩, va_recv hK hP (ci := 1) (q0 := a) rfl (wld_o ct ad132 (xt G L131) y128.2 hc hk (by decide)), fun U hU hW => ⟨rfl, by rw [hU], by rw [hU]; exact hP, va_K.moved hW.alike hK, hD.weaken (fun _ _ _ _ => trivial), by rw [hU]; exact ((hZ.kept hS.2.1).narrow hf9).moved hW.alike, hN.warm hW⟩⟩ rfl rfl hl.1 rfl (lv_room (Nat.le_of_ble_eq_true rfl)) dX1_takeUnit_90 (room_d hT hbl)) hS (fun q _ h => hf9 q h) hf9 (fun u t H locs ht hvm hw hB hz1 hk1 hS => ?_)
            obtain ⟨hP, hK9, hD9⟩ := hB
            rw [ht] at hP
            refine W_cs (k := (L131 : NN).length) (n := wt L131) rfl rfl ?_
            have hD := hD9.weaken (fun _ q _ h => hf9 q.1 h)
            refine lv_aload_n hx hb dX1_takeUnit_93 rfl (lv_at hl 0 rfl) ?_
            obtain ⟨hq136, hF⟩ := chk_some hF
            obtain ⟨y135, hy135, hF⟩ := bnd_some hF
            obtain ⟨w137, hF, ew137⟩ := app_some hF
            obtain ⟨L138, eL138, hF⟩ := ltt_some hF
            have hT138 : L124 = (L131 ++ y135.1) ++ w137.1 := by rw [hT, ew137]; simp only [List.append_assoc]
            have hf9 := wA_in hD hA9 hS
            refine va_callv (va_runV (As := []) (rest := []) ⟨hx, hb, hml, hown, hts⟩ (kX1_beginPicture l D ct ad132 Z (xt G L131) y134 _ a y135 hc hk hy135) (cwV 0 hts gX1_takeUnit_X1_beginPicture rfl rfl rfl (by decide +kernel) ⟨Nat.le_of_ble_eq_true rfl, Nat.le_of_ble_eq_true rfl⟩) ⟨fun a U g mk q => by obtain ⟨q0, q1, qP, qK, qD, qZ, qN⟩ := q; exact ⟨q0, q1, qP, va_K.moved (u := U) (U := U.calling g mk a) (Vm.Alike.refl U.vm) qK, qD, sF.moved (u := U) (U := U.calling g mk a) (Vm.Alike.refl U.vm) qZ, nF.same rfl qN⟩, va_recv hK hP (ci := 1) (q0 := a) rfl (wld_o ct ad132 (xt G L131) y134 hc hk (by decide)), fun U hU hW => ⟨rfl, by rw [hU], by rw [hU]; exact hP, va_K.moved hW.alike hK, hD.weaken (fun _ _ _ _ => trivial), by rw [hU]; exact ((hZ.kept hS.2.1).narrow hf9).moved hW.alike, hN.warm hW⟩⟩ rfl rfl hl.1 rfl (lv_room (Nat.le_of_ble_eq_true rfl)) dX1_takeUnit_94 (room_s hT138 hbl)) hS (fun q _ h => hf9 q h) hf9 (fun ad139 t H locs ht hvm hw hB hz1 hk1 hS => ?_)
            have hn140 := hw
            obtain ⟨hP, hK9, hD9⟩ := hB
            rw [ht] at hP
            have hD := hD9.weaken (fun _ q _ h => hf9 q.1 h)
            rw [xt_xt, ← eL138] at hP hD
            refine W_cs (k := L138.length) (n := wt L138) (by rw [eL138]; exact (len_s L131 y135.1).symm) (by rw [eL138]; exact (wt_app L131 y135.1).symm) ?_
            have hT : L124 = L138 ++ w137.1 := by rw [hT138, eL138]
            have h2 : y122.2 = w137.2 := by rw [h2, ew137]
            have hl := lv_sub (l' := [(0, .ref (ad132 a)), (1, va_re ad132 p0), (2, .int p1)]) hl [0, 1, 2] rfl
            have e9 : ([(0, .ref (ad132 a)), (1, va_re ad132 p0), (2, .int p1)] : List (Nat × Value)) = [(0, .ref (ad139 a)), (1, va_re ad139 p0), (2, .int p1)] := (by first | rfl | simp only [hn140 a hc, agr_re hn140 hq136])
            rw [e9] at hl
            clear e9
            have hk : (xt G L138).2.1 a = 1 := by rw [eL138]; exact xt_k _ hc hk
            have hc : a < (xt G L138).1 := by rw [eL138]; exact xt_l _ hc
            have hk2 : (xt G L138).2.1 b2 = 8 := by rw [eL138]; exact xt_k _ hc2 hk2
            have hc2 : b2 < (xt G L138).1 := by rw [eL138]; exact xt_l _ hc2
            have hk4 : (xt G L138).2.1 b4 = 5 := by rw [eL138]; exact xt_k _ hc4 hk4
            have hc4 : b4 < (xt G L138).1 := by rw [eL138]; exact xt_l _ hc4
            have hk120 : (xt G L138).2.1 b120 = 3 := by rw [eL138]; exact xt_k _ hc120 hk120
            have hc120 : b120 < (xt G L138).1 := by rw [eL138]; exact xt_l _ hc120
            have hag := agr_t (xt_ge _ _) hag hn140
            obtain rfl := Option.some.inj hF
            have e1 : L124 = L138 := by rw [hT]; exact List.append_nil _
            have e2 : y122.2 = y135.2 := h2
            rw [e1] at J122
            try rw [e2] at J122
            exact J122 _ hag _ _ _ hP hD hS (lv_sub hl [0, 1, 2] rfl)
  clear hF
  have hF := hy7
  clear hy7
  refine lv_icmp_le (tgt := 30) hx hb dX1_takeUnit_23 (by decide) (fun c141 => ?_) (fun c141 => ?_)
  · rw [if_pos c141] at hF
    refine lv_iload_n hx hb dX1_takeUnit_30 rfl (lv_at hl 0 rfl) ?_
    refine lv_bipush (v := (31 : Int32)) hx hb dX1_takeUnit_31 (by decide) ?_
    refine lv_iand hx hb dX1_takeUnit_33 ?_
    obtain ⟨x142, ex142, hF⟩ := ltt_some hF
    refine lv_topi (fun zx142 ezx142 => ?_)
    obtain rfl : x142 = zx142 := ex142.trans ezx142.symm
    obtain rfl := Option.some.inj hF
    exact J7 _ _ _ hP hD hS (lv_sub hl [0, 1, 2, 3] rfl)
  · rw [if_neg c141] at hF
    refine lv_iconst (v := (0 : Int32)) hx hb dX1_takeUnit_26 (by decide) ?_
    refine lv_goto (tgt := 34) hx hb dX1_takeUnit_27 (by decide) ?_
    obtain rfl := Option.some.inj hF
    exact J7 _ _ _ hP hD hS (lv_sub hl [0, 1, 2, 3] rfl)
