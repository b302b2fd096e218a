theorem ggX0_costOfFour_X9_clearBlock : GoodIn wsX0_costOfFour wsX9_clearBlock := goodIn_r _ [14, 15, 16, 17, 18, 19, 20, 21, 22, 23, 24, 25, 26, 27, 28, 29, 30, 31, 13, 32, 33, 34, 35, 36, 37, 38, 39, 40, 41, 42, 43, 44, 185, 186, 187, 188, 189, 190, 191, 192, 193, 194, 195, 196, 197, 198, 199, 200, 201, 202, 203, 204, 209, 210, 211, 212, 213, 214, 215, 216, 217, 218, 219, 220, 221, 222, 223, 224, 225, 226, 227, 228, 229, 230] (by decide +kernel) (by decide +kernel)
set_option maxRecDepth 20000 in
theorem gX0_costOfFour_X9_clearBlock : GoodIn wsX0_costOfFour (wsV RX0 462 RX9 yX9_clearBlock wsX9_clearBlock) := goodIn_app (goodIn_of _ (by decide +kernel)) ggX0_costOfFour_X9_clearBlock
set_option maxRecDepth 20000 in
theorem ggX0_costOfFour_X0_priceOfBit : GoodIn wsX0_costOfFour wsX0_priceOfBit := goodIn_r _ [163, 1, 2, 3, 164, 165, 166, 167, 168, 169, 170, 171, 172, 173, 174, 175, 176, 177, 178, 179, 180, 181, 182, 183, 184, 185, 186, 187, 188, 189, 190, 191, 192, 193, 194, 195, 196, 197, 198, 199, 200, 201, 202, 203, 204, 205, 206, 207, 208] (by decide +kernel) (by decide +kernel)
set_option maxRecDepth 20000 in
theorem gX0_costOfFour_X0_priceOfBit : GoodIn wsX0_costOfFour (wsV RX0 456 RX0 yX0_priceOfBit wsX0_priceOfBit) := goodIn_app (goodIn_of _ (by decide +kernel)) ggX0_costOfFour_X0_priceOfBit
theorem ggX0_costOfFour_X9_sidesOf : GoodIn wsX0_costOfFour wsX9_sidesOf := goodIn_r _ [47, 48, 49, 13, 50, 51, 52, 53] (by decide +kernel) (by decide +kernel)
set_option maxRecDepth 20000 in
theorem gX0_costOfFour_X9_sidesOf : GoodIn wsX0_costOfFour (va_wsS RX0 365 yX9_sidesOf wsX9_sidesOf) := goodIn_app (goodIn_of _ (by decide +kernel)) ggX0_costOfFour_X9_sidesOf
set_option maxRecDepth 20000 in
theorem ggX0_costOfFour_X9_guessMode : GoodIn wsX0_costOfFour wsX9_guessMode := goodIn_r _ [57, 48, 49, 13, 50, 51, 52, 53, 58, 59, 60, 61, 37, 62, 15, 63, 64, 65, 66, 67, 68, 16, 185, 186, 187, 188, 189, 190, 191, 192, 193, 194, 195, 196, 197, 198, 199, 200, 201, 202, 203, 204, 213, 214, 215, 216, 217, 218, 219, 220, 221, 222, 223, 224, 225, 226, 227, 228, 229, 230] (by decide +kernel) (by decide +kernel)
set_option maxRecDepth 20000 in
theorem gX0_costOfFour_X9_guessMode : GoodIn wsX0_costOfFour (wsV RX0 501 RX9 yX9_guessMode wsX9_guessMode) := goodIn_app (goodIn_of _ (by decide +kernel)) ggX0_costOfFour_X9_guessMode
set_option maxRecDepth 20000 in
theorem ggX0_costOfFour_X6_predictFour : GoodIn wsX0_costOfFour wsX6_predictFour := goodIn_r _ [76, 77, 78, 79, 80, 49, 13, 50, 81, 52, 53, 82, 83, 75, 84, 85, 86, 87, 88, 89, 90, 91, 92, 93, 94, 95, 96, 97, 98, 99, 100, 101, 102, 103, 104, 105, 106, 185, 186, 187, 188, 189, 190, 191, 192, 193, 194, 195, 196, 197, 198, 199, 200, 201, 202, 203, 204, 231, 232, 233, 234, 235, 236, 237, 238, 239, 240, 241, 242, 243, 244, 213, 214, 215, 216, 217, 218, 219, 220, 221, 222, 223, 224, 225, 226, 227, 228, 229, 230] (by decide +kernel) (by decide +kernel)
set_option maxRecDepth 20000 in
theorem gX0_costOfFour_X6_predictFour : GoodIn wsX0_costOfFour (wsV RX0 504 RX6 yX6_predictFour wsX6_predictFour) := goodIn_app (goodIn_of _ (by decide +kernel)) ggX0_costOfFour_X6_predictFour
set_option maxRecDepth 20000 in
theorem ggX0_costOfFour_X6_measureLuma : GoodIn wsX0_costOfFour wsX6_measureLuma := goodIn_r _ [114, 77, 85, 115, 116, 80, 49, 13, 50, 81, 52, 53, 82, 83, 75, 84, 117, 118, 119, 120, 121, 79, 122, 31, 32, 123, 124, 125, 126, 127, 128, 129, 130, 131, 132, 133, 134, 135, 136, 137, 138, 185, 186, 187, 188, 189, 190, 191, 192, 193, 194, 195, 196, 197, 198, 199, 200, 201, 202, 203, 204, 213, 214, 215, 216, 217, 218, 219, 220, 221, 222, 223, 224, 225, 226, 227, 228, 229, 230, 231, 232, 233, 234, 235, 236, 237, 238, 239, 240, 241, 242, 243, 244] (by decide +kernel) (by decide +kernel)
set_option maxRecDepth 20000 in
theorem gX0_costOfFour_X6_measureLuma : GoodIn wsX0_costOfFour (wsV RX0 508 RX6 yX6_measureLuma wsX6_measureLuma) := goodIn_app (goodIn_of _ (by decide +kernel)) ggX0_costOfFour_X6_measureLuma
set_option maxRecDepth 20000 in
theorem ggX0_costOfFour_X6_fillLuma : GoodIn wsX0_costOfFour wsX6_fillLuma := goodIn_r _ [142, 115, 77, 90, 85, 80, 49, 13, 50, 81, 52, 53, 122, 31, 32, 143, 144, 145, 75, 146, 121, 127, 128, 147, 148, 149, 22, 150, 130, 131, 132, 82, 83, 84, 151, 152, 153, 154, 79, 155, 156, 157, 158, 185, 186, 187, 188, 189, 190, 191, 192, 193, 194, 195, 196, 197, 198, 199, 200, 201, 202, 203, 204, 213, 214, 215, 216, 217, 218, 219, 220, 221, 222, 223, 224, 225, 226, 227, 228, 229, 230, 231, 232, 233, 234, 235, 236, 237, 238, 239, 240, 241, 242, 243, 244] (by decide +kernel) (by decide +kernel)
set_option maxRecDepth 20000 in
theorem gX0_costOfFour_X6_fillLuma : GoodIn wsX0_costOfFour (wsV RX0 512 RX6 yX6_fillLuma wsX6_fillLuma) := goodIn_app (goodIn_of _ (by decide +kernel)) ggX0_costOfFour_X6_fillLuma
set_option maxRecDepth 20000 in
theorem ggX0_costOfFour_X9_mayBeFour : GoodIn wsX0_costOfFour wsX9_mayBeFour := goodIn_r _ [71] (by decide +kernel) (by decide +kernel)
set_option maxRecDepth 20000 in
theorem gX0_costOfFour_X9_mayBeFour : GoodIn wsX0_costOfFour (va_wsS RX0 343 yX9_mayBeFour wsX9_mayBeFour) := goodIn_app (goodIn_of _ (by decide +kernel)) ggX0_costOfFour_X9_mayBeFour
set_option maxRecDepth 20000 in
theorem ggX0_costOfFour_X6_differences : GoodIn wsX0_costOfFour wsX6_differences := goodIn_r _ [110, 77, 79, 80, 49, 13, 50, 81, 52, 53, 82, 83, 75, 84, 85, 185, 186, 187, 188, 189, 190, 191, 192, 193, 194, 195, 196, 197, 198, 199, 200, 201, 202, 203, 204, 231, 232, 233, 234, 235, 236, 237, 238, 239, 240, 241, 242, 243, 244, 213, 214, 215, 216, 217, 218, 219, 220, 221, 222, 223, 224, 225, 226, 227, 228, 229, 230] (by decide +kernel) (by decide +kernel)
set_option maxRecDepth 20000 in
theorem gX0_costOfFour_X6_differences : GoodIn wsX0_costOfFour (wsV RX0 452 RX6 yX6_differences wsX6_differences) := goodIn_app (goodIn_of _ (by decide +kernel)) ggX0_costOfFour_X6_differences
set_option maxRecDepth 20000 in
theorem dX0_costOfFour_0 : decode cX0_costOfFour 0 = .ok (.iconst 0, 1) := by decide +kernel
theorem dX0_costOfFour_1 : decode cX0_costOfFour 1 = .ok (.istore_n 3, 1) := by decide +kernel
theorem dX0_costOfFour_2 : decode cX0_costOfFour 2 = .ok (.bipush 8, 2) := by decide +kernel
theorem dX0_costOfFour_4 : decode cX0_costOfFour 4 = .ok (.istore 4, 2) := by decide +kernel
theorem dX0_costOfFour_6 : decode cX0_costOfFour 6 = .ok (.aload_n 0, 1) := by decide +kernel
theorem dX0_costOfFour_7 : decode cX0_costOfFour 7 = .ok (.getfield 36, 3) := by decide +kernel
theorem dX0_costOfFour_10 : decode cX0_costOfFour 10 = .ok (.getfield 81, 3) := by decide +kernel
theorem dX0_costOfFour_13 : decode cX0_costOfFour 13 = .ok (.getfield 252, 3) := by decide +kernel
theorem dX0_costOfFour_16 : decode cX0_costOfFour 16 = .ok (.bipush 12, 2) := by decide +kernel
theorem dX0_costOfFour_18 : decode cX0_costOfFour 18 = .ok (.iaload, 1) := by decide +kernel
theorem dX0_costOfFour_19 : decode cX0_costOfFour 19 = .ok (.istore 5, 2) := by decide +kernel
theorem dX0_costOfFour_21 : decode cX0_costOfFour 21 = .ok (.aload_n 0, 1) := by decide +kernel
theorem dX0_costOfFour_22 : decode cX0_costOfFour 22 = .ok (.getfield 36, 3) := by decide +kernel
theorem dX0_costOfFour_25 : decode cX0_costOfFour 25 = .ok (.iload_n 1, 1) := by decide +kernel
theorem dX0_costOfFour_26 : decode cX0_costOfFour 26 = .ok (.invokevirtual 462, 3) := by decide +kernel
theorem dX0_costOfFour_29 : decode cX0_costOfFour 29 = .ok (.aload_n 0, 1) := by decide +kernel
theorem dX0_costOfFour_30 : decode cX0_costOfFour 30 = .ok (.getfield 36, 3) := by decide +kernel
theorem dX0_costOfFour_33 : decode cX0_costOfFour 33 = .ok (.getfield 216, 3) := by decide +kernel
theorem dX0_costOfFour_36 : decode cX0_costOfFour 36 = .ok (.bipush 8, 2) := by decide +kernel
theorem dX0_costOfFour_38 : decode cX0_costOfFour 38 = .ok (.iload_n 1, 1) := by decide +kernel
theorem dX0_costOfFour_39 : decode cX0_costOfFour 39 = .ok (.imul, 1) := by decide +kernel
theorem dX0_costOfFour_40 : decode cX0_costOfFour 40 = .ok (.iconst 0, 1) := by decide +kernel
theorem dX0_costOfFour_41 : decode cX0_costOfFour 41 = .ok (.iadd, 1) := by decide +kernel
theorem dX0_costOfFour_42 : decode cX0_costOfFour 42 = .ok (.iconst 0, 1) := by decide +kernel
theorem dX0_costOfFour_43 : decode cX0_costOfFour 43 = .ok (.iastore, 1) := by decide +kernel
theorem dX0_costOfFour_44 : decode cX0_costOfFour 44 = .ok (.iconst 0, 1) := by decide +kernel
theorem dX0_costOfFour_45 : decode cX0_costOfFour 45 = .ok (.istore 6, 2) := by decide +kernel
theorem dX0_costOfFour_47 : decode cX0_costOfFour 47 = .ok (.iload 6, 2) := by decide +kernel
theorem dX0_costOfFour_49 : decode cX0_costOfFour 49 = .ok (.bipush 16, 2) := by decide +kernel
theorem dX0_costOfFour_51 : decode cX0_costOfFour 51 = .ok (.if_icmp .ge 248, 3) := by decide +kernel
theorem dX0_costOfFour_54 : decode cX0_costOfFour 54 = .ok (.iload 6, 2) := by decide +kernel
theorem dX0_costOfFour_56 : decode cX0_costOfFour 56 = .ok (.iload_n 2, 1) := by decide +kernel
theorem dX0_costOfFour_57 : decode cX0_costOfFour 57 = .ok (.invokestatic 365, 3) := by decide +kernel
theorem dX0_costOfFour_60 : decode cX0_costOfFour 60 = .ok (.istore 7, 2) := by decide +kernel
theorem dX0_costOfFour_62 : decode cX0_costOfFour 62 = .ok (.aload_n 0, 1) := by decide +kernel
theorem dX0_costOfFour_63 : decode cX0_costOfFour 63 = .ok (.getfield 36, 3) := by decide +kernel
theorem dX0_costOfFour_66 : decode cX0_costOfFour 66 = .ok (.iload_n 1, 1) := by decide +kernel
theorem dX0_costOfFour_67 : decode cX0_costOfFour 67 = .ok (.iload 6, 2) := by decide +kernel
theorem dX0_costOfFour_69 : decode cX0_costOfFour 69 = .ok (.invokevirtual 501, 3) := by decide +kernel
theorem dX0_costOfFour_72 : decode cX0_costOfFour 72 = .ok (.istore 8, 2) := by decide +kernel
theorem dX0_costOfFour_74 : decode cX0_costOfFour 74 = .ok (.ldc_w 435, 3) := by decide +kernel
theorem dX0_costOfFour_77 : decode cX0_costOfFour 77 = .ok (.istore 9, 2) := by decide +kernel
theorem dX0_costOfFour_79 : decode cX0_costOfFour 79 = .ok (.iconst 2, 1) := by decide +kernel
theorem dX0_costOfFour_80 : decode cX0_costOfFour 80 = .ok (.istore 10, 2) := by decide +kernel
theorem dX0_costOfFour_82 : decode cX0_costOfFour 82 = .ok (.iconst 0, 1) := by decide +kernel
theorem dX0_costOfFour_83 : decode cX0_costOfFour 83 = .ok (.istore 11, 2) := by decide +kernel
theorem dX0_costOfFour_85 : decode cX0_costOfFour 85 = .ok (.iload 11, 2) := by decide +kernel
theorem dX0_costOfFour_87 : decode cX0_costOfFour 87 = .ok (.bipush 9, 2) := by decide +kernel
theorem dX0_costOfFour_89 : decode cX0_costOfFour 89 = .ok (.if_icmp .ge 95, 3) := by decide +kernel
theorem dX0_costOfFour_92 : decode cX0_costOfFour 92 = .ok (.iload 11, 2) := by decide +kernel
theorem dX0_costOfFour_94 : decode cX0_costOfFour 94 = .ok (.iload 7, 2) := by decide +kernel
theorem dX0_costOfFour_96 : decode cX0_costOfFour 96 = .ok (.invokestatic 343, 3) := by decide +kernel
theorem dX0_costOfFour_99 : decode cX0_costOfFour 99 = .ok (.ifCond .ne 6, 3) := by decide +kernel
theorem dX0_costOfFour_102 : decode cX0_costOfFour 102 = .ok (.goto 76, 3) := by decide +kernel
theorem dX0_costOfFour_105 : decode cX0_costOfFour 105 = .ok (.aload_n 0, 1) := by decide +kernel
theorem dX0_costOfFour_106 : decode cX0_costOfFour 106 = .ok (.getfield 43, 3) := by decide +kernel
theorem dX0_costOfFour_109 : decode cX0_costOfFour 109 = .ok (.aload_n 0, 1) := by decide +kernel
theorem dX0_costOfFour_110 : decode cX0_costOfFour 110 = .ok (.getfield 36, 3) := by decide +kernel
theorem dX0_costOfFour_113 : decode cX0_costOfFour 113 = .ok (.iload_n 1, 1) := by decide +kernel
theorem dX0_costOfFour_114 : decode cX0_costOfFour 114 = .ok (.iload 6, 2) := by decide +kernel
theorem dX0_costOfFour_116 : decode cX0_costOfFour 116 = .ok (.iload 11, 2) := by decide +kernel
theorem dX0_costOfFour_118 : decode cX0_costOfFour 118 = .ok (.iload 7, 2) := by decide +kernel
theorem dX0_costOfFour_120 : decode cX0_costOfFour 120 = .ok (.invokevirtual 504, 3) := by decide +kernel
theorem dX0_costOfFour_123 : decode cX0_costOfFour 123 = .ok (.aload_n 0, 1) := by decide +kernel
theorem dX0_costOfFour_124 : decode cX0_costOfFour 124 = .ok (.getfield 43, 3) := by decide +kernel
theorem dX0_costOfFour_127 : decode cX0_costOfFour 127 = .ok (.aload_n 0, 1) := by decide +kernel
theorem dX0_costOfFour_128 : decode cX0_costOfFour 128 = .ok (.getfield 36, 3) := by decide +kernel
theorem dX0_costOfFour_131 : decode cX0_costOfFour 131 = .ok (.aload_n 0, 1) := by decide +kernel
theorem dX0_costOfFour_132 : decode cX0_costOfFour 132 = .ok (.getfield 69, 3) := by decide +kernel
theorem dX0_costOfFour_135 : decode cX0_costOfFour 135 = .ok (.iconst 0, 1) := by decide +kernel
theorem dX0_costOfFour_136 : decode cX0_costOfFour 136 = .ok (.aaload, 1) := by decide +kernel
theorem dX0_costOfFour_137 : decode cX0_costOfFour 137 = .ok (.iload_n 1, 1) := by decide +kernel
theorem dX0_costOfFour_138 : decode cX0_costOfFour 138 = .ok (.iload 6, 2) := by decide +kernel
theorem dX0_costOfFour_140 : decode cX0_costOfFour 140 = .ok (.iconst 4, 1) := by decide +kernel
theorem dX0_costOfFour_141 : decode cX0_costOfFour 141 = .ok (.invokevirtual 452, 3) := by decide +kernel
theorem dX0_costOfFour_144 : decode cX0_costOfFour 144 = .ok (.istore 12, 2) := by decide +kernel
theorem dX0_costOfFour_146 : decode cX0_costOfFour 146 = .ok (.iload 12, 2) := by decide +kernel
theorem dX0_costOfFour_148 : decode cX0_costOfFour 148 = .ok (.iload 9, 2) := by decide +kernel
theorem dX0_costOfFour_150 : decode cX0_costOfFour 150 = .ok (.if_icmp .ge 8, 3) := by decide +kernel
theorem dX0_costOfFour_153 : decode cX0_costOfFour 153 = .ok (.iload 11, 2) := by decide +kernel
theorem dX0_costOfFour_155 : decode cX0_costOfFour 155 = .ok (.goto 5, 3) := by decide +kernel
theorem dX0_costOfFour_158 : decode cX0_costOfFour 158 = .ok (.iload 10, 2) := by decide +kernel
theorem dX0_costOfFour_160 : decode cX0_costOfFour 160 = .ok (.istore 10, 2) := by decide +kernel
theorem dX0_costOfFour_162 : decode cX0_costOfFour 162 = .ok (.iload 12, 2) := by decide +kernel
theorem dX0_costOfFour_164 : decode cX0_costOfFour 164 = .ok (.iload 9, 2) := by decide +kernel
theorem dX0_costOfFour_166 : decode cX0_costOfFour 166 = .ok (.if_icmp .ge 8, 3) := by decide +kernel
theorem dX0_costOfFour_169 : decode cX0_costOfFour 169 = .ok (.iload 12, 2) := by decide +kernel
theorem dX0_costOfFour_171 : decode cX0_costOfFour 171 = .ok (.goto 5, 3) := by decide +kernel
theorem dX0_costOfFour_174 : decode cX0_costOfFour 174 = .ok (.iload 9, 2) := by decide +kernel
theorem dX0_costOfFour_176 : decode cX0_costOfFour 176 = .ok (.istore 9, 2) := by decide +kernel
theorem dX0_costOfFour_178 : decode cX0_costOfFour 178 = .ok (.iinc 11 1, 3) := by decide +kernel
theorem dX0_costOfFour_181 : decode cX0_costOfFour 181 = .ok (.goto (-96), 3) := by decide +kernel
theorem dX0_costOfFour_184 : decode cX0_costOfFour 184 = .ok (.iload_n 3, 1) := by decide +kernel
theorem dX0_costOfFour_185 : decode cX0_costOfFour 185 = .ok (.iload 9, 2) := by decide +kernel
theorem dX0_costOfFour_187 : decode cX0_costOfFour 187 = .ok (.iadd, 1) := by decide +kernel
theorem dX0_costOfFour_188 : decode cX0_costOfFour 188 = .ok (.istore_n 3, 1) := by decide +kernel
theorem dX0_costOfFour_189 : decode cX0_costOfFour 189 = .ok (.iload 4, 2) := by decide +kernel
theorem dX0_costOfFour_191 : decode cX0_costOfFour 191 = .ok (.iload 10, 2) := by decide +kernel
theorem dX0_costOfFour_193 : decode cX0_costOfFour 193 = .ok (.iload 8, 2) := by decide +kernel
theorem dX0_costOfFour_195 : decode cX0_costOfFour 195 = .ok (.if_icmp .ne 7, 3) := by decide +kernel
theorem dX0_costOfFour_198 : decode cX0_costOfFour 198 = .ok (.iconst 1, 1) := by decide +kernel
theorem dX0_costOfFour_199 : decode cX0_costOfFour 199 = .ok (.goto 4, 3) := by decide +kernel
theorem dX0_costOfFour_202 : decode cX0_costOfFour 202 = .ok (.iconst 4, 1) := by decide +kernel
theorem dX0_costOfFour_203 : decode cX0_costOfFour 203 = .ok (.iadd, 1) := by decide +kernel
theorem dX0_costOfFour_204 : decode cX0_costOfFour 204 = .ok (.istore 4, 2) := by decide +kernel
theorem dX0_costOfFour_206 : decode cX0_costOfFour 206 = .ok (.aload_n 0, 1) := by decide +kernel
theorem dX0_costOfFour_207 : decode cX0_costOfFour 207 = .ok (.getfield 75, 3) := by decide +kernel
theorem dX0_costOfFour_210 : decode cX0_costOfFour 210 = .ok (.bipush 13, 2) := by decide +kernel
theorem dX0_costOfFour_212 : decode cX0_costOfFour 212 = .ok (.iload 6, 2) := by decide +kernel
theorem dX0_costOfFour_214 : decode cX0_costOfFour 214 = .ok (.iadd, 1) := by decide +kernel
theorem dX0_costOfFour_215 : decode cX0_costOfFour 215 = .ok (.iload 10, 2) := by decide +kernel
theorem dX0_costOfFour_217 : decode cX0_costOfFour 217 = .ok (.iastore, 1) := by decide +kernel
theorem dX0_costOfFour_218 : decode cX0_costOfFour 218 = .ok (.aload_n 0, 1) := by decide +kernel
theorem dX0_costOfFour_219 : decode cX0_costOfFour 219 = .ok (.getfield 36, 3) := by decide +kernel
theorem dX0_costOfFour_222 : decode cX0_costOfFour 222 = .ok (.getfield 356, 3) := by decide +kernel
theorem dX0_costOfFour_225 : decode cX0_costOfFour 225 = .ok (.bipush 16, 2) := by decide +kernel
theorem dX0_costOfFour_227 : decode cX0_costOfFour 227 = .ok (.iload_n 1, 1) := by decide +kernel
theorem dX0_costOfFour_228 : decode cX0_costOfFour 228 = .ok (.imul, 1) := by decide +kernel
theorem dX0_costOfFour_229 : decode cX0_costOfFour 229 = .ok (.iload 6, 2) := by decide +kernel
theorem dX0_costOfFour_231 : decode cX0_costOfFour 231 = .ok (.iadd, 1) := by decide +kernel
theorem dX0_costOfFour_232 : decode cX0_costOfFour 232 = .ok (.iload 10, 2) := by decide +kernel
theorem dX0_costOfFour_234 : decode cX0_costOfFour 234 = .ok (.iastore, 1) := by decide +kernel
theorem dX0_costOfFour_235 : decode cX0_costOfFour 235 = .ok (.aload_n 0, 1) := by decide +kernel
theorem dX0_costOfFour_236 : decode cX0_costOfFour 236 = .ok (.getfield 43, 3) := by decide +kernel
theorem dX0_costOfFour_239 : decode cX0_costOfFour 239 = .ok (.aload_n 0, 1) := by decide +kernel
theorem dX0_costOfFour_240 : decode cX0_costOfFour 240 = .ok (.getfield 36, 3) := by decide +kernel
theorem dX0_costOfFour_243 : decode cX0_costOfFour 243 = .ok (.iload_n 1, 1) := by decide +kernel
theorem dX0_costOfFour_244 : decode cX0_costOfFour 244 = .ok (.iload 6, 2) := by decide +kernel
theorem dX0_costOfFour_246 : decode cX0_costOfFour 246 = .ok (.iload 10, 2) := by decide +kernel
theorem dX0_costOfFour_248 : decode cX0_costOfFour 248 = .ok (.iload 7, 2) := by decide +kernel
theorem dX0_costOfFour_250 : decode cX0_costOfFour 250 = .ok (.invokevirtual 504, 3) := by decide +kernel
theorem dX0_costOfFour_253 : decode cX0_costOfFour 253 = .ok (.aload_n 0, 1) := by decide +kernel
theorem dX0_costOfFour_254 : decode cX0_costOfFour 254 = .ok (.getfield 43, 3) := by decide +kernel
theorem dX0_costOfFour_257 : decode cX0_costOfFour 257 = .ok (.aload_n 0, 1) := by decide +kernel
theorem dX0_costOfFour_258 : decode cX0_costOfFour 258 = .ok (.getfield 36, 3) := by decide +kernel
theorem dX0_costOfFour_261 : decode cX0_costOfFour 261 = .ok (.aload_n 0, 1) := by decide +kernel
theorem dX0_costOfFour_262 : decode cX0_costOfFour 262 = .ok (.getfield 69, 3) := by decide +kernel
theorem dX0_costOfFour_265 : decode cX0_costOfFour 265 = .ok (.iconst 0, 1) := by decide +kernel
theorem dX0_costOfFour_266 : decode cX0_costOfFour 266 = .ok (.aaload, 1) := by decide +kernel
theorem dX0_costOfFour_267 : decode cX0_costOfFour 267 = .ok (.iload_n 1, 1) := by decide +kernel
theorem dX0_costOfFour_268 : decode cX0_costOfFour 268 = .ok (.iload 6, 2) := by decide +kernel
theorem dX0_costOfFour_270 : decode cX0_costOfFour 270 = .ok (.iload 5, 2) := by decide +kernel
theorem dX0_costOfFour_272 : decode cX0_costOfFour 272 = .ok (.iconst 1, 1) := by decide +kernel
theorem dX0_costOfFour_273 : decode cX0_costOfFour 273 = .ok (.invokevirtual 508, 3) := by decide +kernel
theorem dX0_costOfFour_276 : decode cX0_costOfFour 276 = .ok (.pop, 1) := by decide +kernel
theorem dX0_costOfFour_277 : decode cX0_costOfFour 277 = .ok (.aload_n 0, 1) := by decide +kernel
theorem dX0_costOfFour_278 : decode cX0_costOfFour 278 = .ok (.getfield 43, 3) := by decide +kernel
theorem dX0_costOfFour_281 : decode cX0_costOfFour 281 = .ok (.aload_n 0, 1) := by decide +kernel
theorem dX0_costOfFour_282 : decode cX0_costOfFour 282 = .ok (.getfield 36, 3) := by decide +kernel
theorem dX0_costOfFour_285 : decode cX0_costOfFour 285 = .ok (.iload_n 1, 1) := by decide +kernel
theorem dX0_costOfFour_286 : decode cX0_costOfFour 286 = .ok (.iload 6, 2) := by decide +kernel
theorem dX0_costOfFour_288 : decode cX0_costOfFour 288 = .ok (.iload 5, 2) := by decide +kernel
theorem dX0_costOfFour_290 : decode cX0_costOfFour 290 = .ok (.invokevirtual 512, 3) := by decide +kernel
theorem dX0_costOfFour_293 : decode cX0_costOfFour 293 = .ok (.iinc 6 1, 3) := by decide +kernel
theorem dX0_costOfFour_296 : decode cX0_costOfFour 296 = .ok (.goto (-249), 3) := by decide +kernel
theorem dX0_costOfFour_299 : decode cX0_costOfFour 299 = .ok (.iload_n 3, 1) := by decide +kernel
theorem dX0_costOfFour_300 : decode cX0_costOfFour 300 = .ok (.aload_n 0, 1) := by decide +kernel
theorem dX0_costOfFour_301 : decode cX0_costOfFour 301 = .ok (.invokevirtual 456, 3) := by decide +kernel
theorem dX0_costOfFour_304 : decode cX0_costOfFour 304 = .ok (.iload 4, 2) := by decide +kernel
theorem dX0_costOfFour_306 : decode cX0_costOfFour 306 = .ok (.imul, 1) := by decide +kernel
theorem dX0_costOfFour_307 : decode cX0_costOfFour 307 = .ok (.iadd, 1) := by decide +kernel
theorem dX0_costOfFour_308 : decode cX0_costOfFour 308 = .ok (.ireturn, 1) := by decide +kernel
def FX0_costOfFour (G : GG) (M : DD) (a : Nat) (p0 : Int32) (p1 : Int32) : Option (DD × Int32) :=
  dr G 9 ((M.2 a 3)) fun b2 =>
  dr G 3 ((M.2 b2 1)) fun b3 =>
  dr G 13 ((M.2 b3 0)) fun b4 =>
  chk (¬ (((12 : Int32)) < 0 ∨ G.2.2 b4 ≤ ((12 : Int32)).toNatClampNeg)) <|
  ltt (M.1 b4 ((12 : Int32)).toNatClampNeg) fun x5 =>
  bnd (FX9_clearBlock G M b2 p0) fun y6 =>
  dr G 9 ((y6.2 a 3)) fun b7 =>
  ltt ((((8 : Int32)) * p0)) fun x8 =>
  ltt ((x8 + ((0 : Int32)))) fun x9 =>
  dr G 13 ((y6.2 b7 6)) fun b10 =>
  chk (¬ (x9 < 0 ∨ G.2.2 b10 ≤ x9.toNatClampNeg)) <|
  ltt (uI y6 b10 x9.toNatClampNeg ((0 : Int32))) fun M11 =>
  bnd (itr (fun (s13 : Int32 × Int32 × Int32 × DD) => ((if ((16 : Int32)) ≤ s13.2.2.1 then (some (.inr (s13.1, s13.2.1, s13.2.2.1, s13.2.2.2))) else
  (bnd (FX9_sidesOf G s13.2.2.2 s13.2.2.1 p1) fun y20 =>
  dr G 9 ((y20.1.2 a 3)) fun b21 =>
  bnd (FX9_guessMode G y20.1 b21 p0 s13.2.2.1) fun y22 =>
  bnd (itr (fun (s24 : Int32 × Int32 × Int32 × DD) => ((if ((9 : Int32)) ≤ s24.2.2.1 then (some (.inr (s24.1, s24.2.1, s24.2.2.1, s24.2.2.2))) else
  (bnd (FX9_mayBeFour G s24.2.2.2 s24.2.2.1 y20.2) fun y48 =>
  bnd (if y48.2 = ((0 : Int32)) then (some (s24.1, s24.2.1, y48.1)) else
  (dr G 6 ((y48.1.2 a 4)) fun b52 =>
  bnd (FX6_predictFour G y48.1 b52 ((y48.1.2 a 3)) p0 s13.2.2.1 s24.2.2.1 y20.2) fun y53 =>
  dr G 15 ((y53.2 a 9)) fun b54 =>
  chk (¬ (((0 : Int32)) < 0 ∨ G.2.2 b54 ≤ ((0 : Int32)).toNatClampNeg)) <|
  dr G 6 ((y53.2 a 4)) fun b55 =>
  bnd (FX6_differences G y53 b55 ((y53.2 a 3)) ((y53.2 b54 ((0 : Int32)).toNatClampNeg)) p0 s13.2.2.1 ((4 : Int32))) fun y56 =>
  bnd (if s24.1 ≤ y56.2 then (some (s24.2.1)) else
  (some (s24.2.2.1))) fun (y57 : Int32) =>
  bnd (if s24.1 ≤ y56.2 then (some (s24.1)) else
  (some (y56.2))) fun (y58 : Int32) =>
  some (y58, y57, y56.1))) fun (y49 : Int32 × Int32 × DD) =>
  ltt (s24.2.2.1 + (1 : Int32)) fun x50 =>
  some (.inl (y49.1, y49.2.1, x50, y49.2.2)))) : Option ((Int32 × Int32 × Int32 × DD) ⊕ (Int32 × Int32 × Int32 × DD)))) 1000000 ((2147483647 : Int32), (2 : Int32), (0 : Int32), y22.1)) fun (y23 : Int32 × Int32 × Int32 × DD) =>
  ltt ((s13.1 + y23.1)) fun x26 =>
  bnd (if y23.2.1 = y22.2 then (some ((1 : Int32))) else
  (some ((4 : Int32)))) fun (y27 : Int32) =>
  ltt ((s13.2.1 + y27)) fun x28 =>
  ltt ((((13 : Int32)) + s13.2.2.1)) fun x29 =>
  dr G 13 ((y23.2.2.2.2 a 20)) fun b30 =>
  chk (¬ (x29 < 0 ∨ G.2.2 b30 ≤ x29.toNatClampNeg)) <|
  ltt (uI y23.2.2.2 b30 x29.toNatClampNeg y23.2.1) fun M31 =>
  dr G 9 ((M31.2 a 3)) fun b32 =>
  ltt ((((16 : Int32)) * p0)) fun x33 =>
  ltt ((x33 + s13.2.2.1)) fun x34 =>
  dr G 13 ((M31.2 b32 7)) fun b35 =>
  chk (¬ (x34 < 0 ∨ G.2.2 b35 ≤ x34.toNatClampNeg)) <|
  ltt (uI M31 b35 x34.toNatClampNeg y23.2.1) fun M36 =>
  dr G 6 ((M36.2 a 4)) fun b37 =>
  bnd (FX6_predictFour G M36 b37 ((M36.2 a 3)) p0 s13.2.2.1 y23.2.1 y20.2) fun y38 =>
  dr G 15 ((y38.2 a 9)) fun b39 =>
  chk (¬ (((0 : Int32)) < 0 ∨ G.2.2 b39 ≤ ((0 : Int32)).toNatClampNeg)) <|
  dr G 6 ((y38.2 a 4)) fun b40 =>
  bnd (FX6_measureLuma G y38 b40 ((y38.2 a 3)) ((y38.2 b39 ((0 : Int32)).toNatClampNeg)) p0 s13.2.2.1 x5 ((1 : Int32))) fun y41 =>
  dr G 6 ((y41.1.2 a 4)) fun b42 =>
  bnd (FX6_fillLuma G y41.1 b42 ((y41.1.2 a 3)) p0 s13.2.2.1 x5) fun y43 =>
  ltt (s13.2.2.1 + (1 : Int32)) fun x44 =>
  some (.inl (x26, x28, x44, y43)))) : Option ((Int32 × Int32 × Int32 × DD) ⊕ (Int32 × Int32 × Int32 × DD)))) 1000000 ((0 : Int32), (8 : Int32), (0 : Int32), M11)) fun (y12 : Int32 × Int32 × Int32 × DD) =>
  bnd (FX0_priceOfBit G y12.2.2.2 a) fun y15 =>
  ltt ((y15.2 * y12.2.1)) fun x16 =>
  ltt ((y12.1 + x16)) fun x17 =>
  some (y15.1, x17)
set_option maxHeartbeats 4000000 in
set_option maxRecDepth 100000 in
theorem kX0_costOfFour (l : Launch) (D : va_G) (ct : CT) (ad : Nat → Nat) (Z : Nat → Nat) (G : GG) (M : DD) (sz : Nat) (a : Nat) (p0 : Int32) (p1 : Int32) (y : DD × Int32) (hc : a < G.1) (hk : G.2.1 a = 0) (hF : FX0_costOfFour G M a p0 p1 = some y) : Met l yX0_costOfFour wsX0_costOfFour ({ frames := 4, cells := 0, slots := 0, locals := 90 }) (va_Pc [.ref (ad a), .int p0, .int p1] (kB D ct ad Z G M sz)) (va_Qi (fun (q : Int32) (_ : Unit) => q = y.2) (fun _ t => kE D ct ad G (wA ad G sz) y.1 t) (wA ad G sz)) 0 0 (wA ad G sz) := by
  refine Met.ofW (cc := cX0_costOfFour) (maxL := 13) (ret := (some .int)) (by decide) rfl ?_
  intro p e s m args below meth c s₁ B hml hv
  obtain ⟨rfl, hsz, hP, hK, hD0, hZ, hN⟩ := hv
  have hx := B.exec
  have hb := B.bytes
  have hr := B.returns
  have hts := atoms_spec (ws := wsX0_costOfFour) B.pre
  have hown : s.vm.findClass RX0 = some m.cls := findClass_of_methodNamed B.named
  have hlocks := B.notSynchronized
  subst hsz
  have hD := wD_self (sz := s.heap.size) hD0
  have hA9 : ∀ q, s.heap.size ≤ q → wA ad G s.heap.size q := fun q h => Or.inr h
  generalize hAe : wA ad G s.heap.size = A at hD hA9 hZ ⊢
  have hS : va_S A s.heap s.heap [] := va_S.rf
  have hl := lv_entry ([.ref (ad a), .int p0, .int p1]) (n := 13) (Nat.le_of_ble_eq_true rfl)
  rw [lg_entry_eq]
  generalize (lg_sl ([.ref (ad a), .int p0, .int p1]) ++ List.replicate (13 - (lg_sl ([.ref (ad a), .int p0, .int p1])).length) Slot.unset).toArray = ls at hl ⊢
  have hl : lv_has ls 13 [(0, .ref (ad a)), (1, .int p0), (2, .int p1)] := hl
  unfold FX0_costOfFour at hF
  refine lv_iconst (v := (0 : Int32)) hx hb dX0_costOfFour_0 (by decide) ?_
  refine lv_istore_n (lv' := [(3, .int (0 : Int32)), (0, .ref (ad a)), (1, .int p0), (2, .int p1)]) hx hb dX0_costOfFour_1 rfl hl (by decide) rfl (fun ls hl => ?_)
  refine lv_bipush (v := (8 : Int32)) hx hb dX0_costOfFour_2 (by decide) ?_
  refine lv_istore (lv' := [(4, .int (8 : Int32)), (3, .int (0 : Int32)), (0, .ref (ad a)), (1, .int p0), (2, .int p1)]) hx hb dX0_costOfFour_4 hl (by decide) rfl (fun ls hl => ?_)
  refine lv_aload_n hx hb dX0_costOfFour_6 rfl (lv_at hl 2 rfl) ?_
  refine va_get (D := D) (ci := 0) (v := va_re ad (M.2 a 3)) (C := RX0) (T := TX0) (N := 21) hx hb hts (by decide +kernel) hown hK hP a (wld_o ct ad G M hc hk (by decide)) rfl 3 (by decide) (hts (.fieldLink RX0 36 "VideoSuite$Coder" "work" "LVideoSuite$Work;") (by decide +kernel)) (fun _ h9 => h9) rfl dX0_costOfFour_7 ?_
  obtain ⟨b2, ho2, hc2, hk2, hF⟩ := dr_some hF
  refine W_st (st' := [.ref (ad b2)]) (by rw [va_some ho2]) ?_
  refine va_get (D := D) (ci := 9) (v := va_re ad (M.2 b2 1)) (C := RX9) (T := TX9) (N := 20) hx hb hts (by decide +kernel) hown hK hP b2 (wld_o ct ad G M hc2 hk2 (by decide)) rfl 1 (by decide) (hts (.fieldLink RX0 81 "VideoSuite$Work" "head" "LVideoSuite$Header;") (by decide +kernel)) (fun _ h9 => h9) rfl dX0_costOfFour_10 ?_
  obtain ⟨b3, ho3, hc3, hk3, hF⟩ := dr_some hF
  refine W_st (st' := [.ref (ad b3)]) (by rw [va_some ho3]) ?_
  refine va_get (D := D) (ci := 3) (v := va_re ad (M.2 b3 0)) (C := RX3) (T := TX3) (N := 4) hx hb hts (by decide +kernel) hown hK hP b3 (wld_o ct ad G M hc3 hk3 (by decide)) rfl 0 (by decide) (hts (.fieldLink RX0 252 "VideoSuite$Header" "v" "[I") (by decide +kernel)) (fun _ h9 => h9) rfl dX0_costOfFour_13 ?_
  refine lv_bipush (v := (12 : Int32)) hx hb dX0_costOfFour_16 (by decide) ?_
  obtain ⟨b4, ho4, hc4, hk4, hF⟩ := dr_some hF
  refine W_st (st' := [.int (12 : Int32), .ref (ad b4)]) (by rw [va_some ho4]) ?_
  obtain ⟨hvc, hF⟩ := chk_some hF
  refine va_iald hx hb hK hP b4 1 (wld_i ct ad G M hc4 hk4) rfl hvc dX0_costOfFour_18 ?_
  obtain ⟨x5, ex5, hF⟩ := ltt_some hF
  refine lv_topi (fun zx5 ezx5 => ?_)
  obtain rfl : x5 = zx5 := ex5.trans ezx5.symm
  refine lv_istore (lv' := [(5, .int x5), (4, .int (8 : Int32)), (3, .int (0 : Int32)), (0, .ref (ad a)), (1, .int p0), (2, .int p1)]) hx hb dX0_costOfFour_19 hl (by decide) rfl (fun ls hl => ?_)
  refine lv_aload_n hx hb dX0_costOfFour_21 rfl (lv_at hl 3 rfl) ?_
  refine va_get (D := D) (ci := 0) (v := va_re ad (M.2 a 3)) (C := RX0) (T := TX0) (N := 21) hx hb hts (by decide +kernel) hown hK hP a (wld_o ct ad G M hc hk (by decide)) rfl 3 (by decide) (hts (.fieldLink RX0 36 "VideoSuite$Coder" "work" "LVideoSuite$Work;") (by decide +kernel)) (fun _ h9 => h9) rfl dX0_costOfFour_22 ?_
  refine lv_iload_n hx hb dX0_costOfFour_25 rfl (lv_at hl 4 rfl) ?_
  refine W_st (st' := [.int p0, .ref (ad b2)]) (by rw [va_some ho2]) ?_
  obtain ⟨y6, hy6, hF⟩ := bnd_some hF
  have hf9 := wA_in hD hA9 hS
  refine va_callv (va_runV (As := [.int p0]) (rest := []) ⟨hx, hb, hml, hown, hts⟩ (kX9_clearBlock l D ct ad Z G M s.heap.size b2 p0 y6 hc2 hk2 hy6) (cwV 1 hts gX0_costOfFour_X9_clearBlock rfl rfl rfl (by decide +kernel) ⟨Nat.le_of_ble_eq_true rfl, Nat.le_of_ble_eq_true rfl⟩) ⟨fun a U g mk q => by obtain ⟨q0, q1, qP, qK, qD, qZ, qN⟩ := q; exact ⟨q0, q1, qP, va_K.moved (u := U) (U := U.calling g mk a) (Vm.Alike.refl U.vm) qK, qD, sF.moved (u := U) (U := U.calling g mk a) (Vm.Alike.refl U.vm) qZ, nF.same rfl qN⟩, va_recv hK hP (ci := 9) (q0 := b2) rfl (wld_o ct ad G M hc2 hk2 (by decide)), fun U hU hW => ⟨rfl, by rw [hU], by rw [hU]; exact hP, va_K.moved hW.alike hK, hD.weaken (fun _ _ _ _ => trivial), by rw [hU]; exact ((hZ.kept hS.2.1).narrow hf9).moved hW.alike, hN.warm hW⟩⟩ rfl rfl hl.1 rfl (lv_room (Nat.le_of_ble_eq_true rfl)) dX0_costOfFour_26 ⟨(Nat.zero_le _), (Nat.zero_le _)⟩) hS (fun q _ h => hf9 q h) hf9 (fun u t H locs ht hvm hw hB hz1 hk1 hS => ?_)
  obtain ⟨hP, hK9, hD9⟩ := hB
  rw [ht] at hP
  have hD := hD9.weaken (fun _ q _ h => hf9 q.1 h)
  refine lv_aload_n hx hb dX0_costOfFour_29 rfl (lv_at hl 3 rfl) ?_
  refine va_get (D := D) (ci := 0) (v := va_re ad (y6.2 a 3)) (C := RX0) (T := TX0) (N := 21) hx hb hts (by decide +kernel) hown hK hP a (wld_o ct ad G y6 hc hk (by decide)) rfl 3 (by decide) (hts (.fieldLink RX0 36 "VideoSuite$Coder" "work" "LVideoSuite$Work;") (by decide +kernel)) (fun _ h9 => h9) rfl dX0_costOfFour_30 ?_
  obtain ⟨b7, ho7, hc7, hk7, hF⟩ := dr_some hF
  refine W_st (st' := [.ref (ad b7)]) (by rw [va_some ho7]) ?_
  refine va_get (D := D) (ci := 9) (v := va_re ad (y6.2 b7 6)) (C := RX9) (T := TX9) (N := 20) hx hb hts (by decide +kernel) hown hK hP b7 (wld_o ct ad G y6 hc7 hk7 (by decide)) rfl 6 (by decide) (hts (.fieldLink RX0 216 "VideoSuite$Work" "info" "[I") (by decide +kernel)) (fun _ h9 => h9) rfl dX0_costOfFour_33 ?_
  refine lv_bipush (v := (8 : Int32)) hx hb dX0_costOfFour_36 (by decide) ?_
  refine lv_iload_n hx hb dX0_costOfFour_38 rfl (lv_at hl 4 rfl) ?_
  refine lv_imul hx hb dX0_costOfFour_39 ?_
  obtain ⟨x8, ex8, hF⟩ := ltt_some hF
  refine lv_topi (fun zx8 ezx8 => ?_)
  obtain rfl : x8 = zx8 := ex8.trans ezx8.symm
  refine lv_iconst (v := (0 : Int32)) hx hb dX0_costOfFour_40 (by decide) ?_
  refine lv_iadd hx hb dX0_costOfFour_41 ?_
  obtain ⟨x9, ex9, hF⟩ := ltt_some hF
  refine lv_topi (fun zx9 ezx9 => ?_)
  obtain rfl : x9 = zx9 := ex9.trans ezx9.symm
  refine lv_iconst (v := (0 : Int32)) hx hb dX0_costOfFour_42 (by decide) ?_
  obtain ⟨b10, ho10, hc10, hk10, hF⟩ := dr_some hF
  refine W_st (st' := [.int (0 : Int32), .int x9, .ref (ad b10)]) (by rw [va_some ho10]) ?_
  obtain ⟨hvc, hF⟩ := chk_some hF
  refine va_iast hx hb hK hP hD hS b10 1 (wld_i ct ad G y6 hc10 hk10) rfl hvc dX0_costOfFour_43 (fun H locs hP hD hS => ?_)
  obtain ⟨M11, eM11, hF⟩ := ltt_some hF
  rw [set_i ct ad G y6 hc10 hk10, ← eM11] at hP hD
  refine lv_iconst (v := (0 : Int32)) hx hb dX0_costOfFour_44 (by decide) ?_
  refine lv_istore (lv' := [(6, .int (0 : Int32)), (5, .int x5), (4, .int (8 : Int32)), (3, .int (0 : Int32)), (0, .ref (ad a)), (1, .int p0), (2, .int p1)]) hx hb dX0_costOfFour_45 hl (by decide) rfl (fun ls hl => ?_)
  obtain ⟨y12, hy12, hF⟩ := bnd_some hF
  have K12 : ∀ (H : Heap) (locs : List Loc) (ls : Array Slot), va_P D classes (wld ct ad G y12.2.2.2) H → va_D A (wld ct ad G y12.2.2.2) → va_S A s.heap H locs → lv_has ls 13 [(6, .int y12.2.2.1), (5, .int x5), (4, .int y12.2.1), (3, .int y12.1), (0, .ref (ad a)), (1, .int p0), (2, .int p1)] → W p l e (headSpec wsX0_costOfFour ({ frames := 4, cells := 0, slots := 0, locals := 90 })).room s m ([.ref (ad a), .int p0, .int p1] : List Value).toArray below meth c H locs 0 0 (MQ below (va_Qi (fun (q : Int32) (_ : Unit) => q = y.2) (fun _ t => kE D ct ad G A y.1 t) A) ([.ref (ad a), .int p0, .int p1] : List Value).toArray s 0 0 A) (F0 m 299 ls []) := by
    intro H locs ls hP hD hS hl
    refine lv_iload_n hx hb dX0_costOfFour_299 rfl (lv_at hl 3 rfl) ?_
    refine lv_aload_n hx hb dX0_costOfFour_300 rfl (lv_at hl 4 rfl) ?_
    obtain ⟨y15, hy15, hF⟩ := bnd_some hF
    have hf9 := wA_in hD hA9 hS
    refine va_calli (va_runV (As := []) (rest := [.int y12.1]) ⟨hx, hb, hml, hown, hts⟩ (kX0_priceOfBit l D ct ad Z G y12.2.2.2 H.size a y15 hc hk hy15) (cwV 0 hts gX0_costOfFour_X0_priceOfBit rfl rfl rfl (by decide +kernel) ⟨Nat.le_of_ble_eq_true rfl, Nat.le_of_ble_eq_true rfl⟩) ⟨fun a U g mk q => by obtain ⟨q0, q1, qP, qK, qD, qZ, qN⟩ := q; exact ⟨q0, q1, qP, va_K.moved (u := U) (U := U.calling g mk a) (Vm.Alike.refl U.vm) qK, qD, sF.moved (u := U) (U := U.calling g mk a) (Vm.Alike.refl U.vm) qZ, nF.same rfl qN⟩, va_recv hK hP (ci := 0) (q0 := a) rfl (wld_o ct ad G y12.2.2.2 hc hk (by decide)), fun U hU hW => ⟨rfl, by rw [hU], by rw [hU]; exact hP, va_K.moved hW.alike hK, hD.weaken (fun _ _ _ _ => trivial), by rw [hU]; exact ((hZ.kept hS.2.1).narrow hf9).moved hW.alike, hN.warm hW⟩⟩ rfl rfl hl.1 rfl (lv_room (Nat.le_of_ble_eq_true rfl)) dX0_costOfFour_301 ⟨(Nat.zero_le _), (Nat.zero_le _)⟩) hS (fun q _ h => hf9 q h) hf9 (fun r u t H locs ht hvm hw hB hz1 hk1 hS => ?_)
    obtain ⟨hP, hK9, hD9⟩ := hB
    rw [ht] at hP
    try dsimp only at hw
    subst hw
    have hD := hD9.weaken (fun _ q _ h => hf9 q.1 h)
    refine lv_iload hx hb dX0_costOfFour_304 (lv_at hl 2 rfl) ?_
    refine lv_imul hx hb dX0_costOfFour_306 ?_
    obtain ⟨x16, ex16, hF⟩ := ltt_some hF
    refine lv_topi (fun zx16 ezx16 => ?_)
    obtain rfl : x16 = zx16 := ex16.trans ezx16.symm
    refine lv_iadd hx hb dX0_costOfFour_307 ?_
    obtain ⟨x17, ex17, hF⟩ := ltt_some hF
    refine lv_topi (fun zx17 ezx17 => ?_)
    obtain rfl : x17 = zx17 := ex17.trans ezx17.symm
    obtain rfl := Option.some.inj hF
    exact W.iret (v := x17) hx hb hr (fun t ht hW => ⟨⟨_, (), rfl, rfl, ⟨by rw [ht]; exact hP, va_K.moved hW.alike hK, hD⟩⟩, hS.F ht⟩) hS.2.2 dX0_costOfFour_308
  clear hF
  refine itr_rule (fun (s13 : Int32 × Int32 × Int32 × DD) => ∀ (H : Heap) (locs : List Loc) (ls : Array Slot), va_P D classes (wld ct ad G s13.2.2.2) H → va_D A (wld ct ad G s13.2.2.2) → va_S A s.heap H locs → lv_has ls 13 [(6, .int s13.2.2.1), (5, .int x5), (4, .int s13.2.1), (3, .int s13.1), (0, .ref (ad a)), (1, .int p0), (2, .int p1)] → W p l e (headSpec wsX0_costOfFour ({ frames := 4, cells := 0, slots := 0, locals := 90 })).room s m ([.ref (ad a), .int p0, .int p1] : List Value).toArray below meth c H locs 0 0 (MQ below (va_Qi (fun (q : Int32) (_ : Unit) => q = y.2) (fun _ t => kE D ct ad G A y.1 t) A) ([.ref (ad a), .int p0, .int p1] : List Value).toArray s 0 0 A) (F0 m 47 ls [])) ?_ _ _ hy12 _ _ _ hP hD hS (lv_sub hl [0, 1, 2, 3, 4, 5, 6] rfl)
  rintro s13 ⟨z18, hF, hwz18⟩ H locs ls hP hD hS hl
  try dsimp only at hF
  refine lv_iload hx hb dX0_costOfFour_47 (lv_at hl 0 rfl) ?_
  refine lv_bipush (v := (16 : Int32)) hx hb dX0_costOfFour_49 (by decide) ?_
  refine lv_icmp_ge (tgt := 299) hx hb dX0_costOfFour_51 (by decide) (fun c19 => ?_) (fun c19 => ?_)
  · rw [if_pos c19] at hF
    obtain rfl := Option.some.inj hF
    subst hwz18
    exact K12 _ _ _ hP hD hS (lv_sub hl [0, 1, 2, 3, 4, 5, 6] rfl)
  · rw [if_neg c19] at hF
    refine lv_iload hx hb dX0_costOfFour_54 (lv_at hl 0 rfl) ?_
    refine lv_iload_n hx hb dX0_costOfFour_56 rfl (lv_at hl 6 rfl) ?_
    obtain ⟨y20, hy20, hF⟩ := bnd_some hF
    have hf9 := wA_in hD hA9 hS
    refine va_calli (va_runS (As := [.int s13.2.2.1, .int p1]) (rest := []) ⟨hx, hb, hml, hown, hts⟩ (kX9_sidesOf l D ct ad Z G s13.2.2.2 H.size s13.2.2.1 p1 y20 hy20) (va_cwS 2 hts gX0_costOfFour_X9_sidesOf rfl rfl rfl (by decide +kernel) ⟨Nat.le_of_ble_eq_true rfl, Nat.le_of_ble_eq_true rfl⟩) ⟨fun a U g mk q => by obtain ⟨q0, q1, qP, qK, qD, qZ, qN⟩ := q; exact ⟨q0, q1, qP, va_K.moved (u := U) (U := U.calling g mk a) (Vm.Alike.refl U.vm) qK, qD, sF.moved (u := U) (U := U.calling g mk a) (Vm.Alike.refl U.vm) qZ, nF.same rfl qN⟩, fun U hU hW => ⟨rfl, by rw [hU], by rw [hU]; exact hP, va_K.moved hW.alike hK, hD.weaken (fun _ _ _ _ => trivial), by rw [hU]; exact ((hZ.kept hS.2.1).narrow hf9).moved hW.alike, hN.warm hW⟩⟩ rfl rfl hl.1 rfl (lv_room (Nat.le_of_ble_eq_true rfl)) dX0_costOfFour_57 ⟨(Nat.zero_le _), (Nat.zero_le _)⟩) hS (fun q _ h => hf9 q h) hf9 (fun r u t H locs ht hvm hw hB hz1 hk1 hS => ?_)
    obtain ⟨hP, hK9, hD9⟩ := hB
    rw [ht] at hP
    try dsimp only at hw
    subst hw
    have hD := hD9.weaken (fun _ q _ h => hf9 q.1 h)
    refine lv_istore (lv' := [(7, .int y20.2), (6, .int s13.2.2.1), (5, .int x5), (4, .int s13.2.1), (3, .int s13.1), (0, .ref (ad a)), (1, .int p0), (2, .int p1)]) hx hb dX0_costOfFour_60 hl (by decide) rfl (fun ls hl => ?_)
    refine lv_aload_n hx hb dX0_costOfFour_62 rfl (lv_at hl 5 rfl) ?_
    refine va_get (D := D) (ci := 0) (v := va_re ad (y20.1.2 a 3)) (C := RX0) (T := TX0) (N := 21) hx hb hts (by decide +kernel) hown hK hP a (wld_o ct ad G y20.1 hc hk (by decide)) rfl 3 (by decide) (hts (.fieldLink RX0 36 "VideoSuite$Coder" "work" "LVideoSuite$Work;") (by decide +kernel)) (fun _ h9 => h9) rfl dX0_costOfFour_63 ?_
    refine lv_iload_n hx hb dX0_costOfFour_66 rfl (lv_at hl 6 rfl) ?_
    refine lv_iload hx hb dX0_costOfFour_67 (lv_at hl 1 rfl) ?_
    obtain ⟨b21, ho21, hc21, hk21, hF⟩ := dr_some hF
    refine W_st (st' := [.int s13.2.2.1, .int p0, .ref (ad b21)]) (by rw [va_some ho21]) ?_
    obtain ⟨y22, hy22, hF⟩ := bnd_some hF
    have hf9 := wA_in hD hA9 hS
    refine va_calli (va_runV (As := [.int p0, .int s13.2.2.1]) (rest := []) ⟨hx, hb, hml, hown, hts⟩ (kX9_guessMode l D ct ad Z G y20.1 H.size b21 p0 s13.2.2.1 y22 hc21 hk21 hy22) (cwV 2 hts gX0_costOfFour_X9_guessMode rfl rfl rfl (by decide +kernel) ⟨Nat.le_of_ble_eq_true rfl, Nat.le_of_ble_eq_true rfl⟩) ⟨fun a U g mk q => by obtain ⟨q0, q1, qP, qK, qD, qZ, qN⟩ := q; exact ⟨q0, q1, qP, va_K.moved (u := U) (U := U.calling g mk a) (Vm.Alike.refl U.vm) qK, qD, sF.moved (u := U) (U := U.calling g mk a) (Vm.Alike.refl U.vm) qZ, nF.same rfl qN⟩, va_recv hK hP (ci := 9) (q0 := b21) rfl (wld_o ct ad G y20.1 hc21 hk21 (by decide)), fun U hU hW => ⟨rfl, by rw [hU], by rw [hU]; exact hP, va_K.moved hW.alike hK, hD.weaken (fun _ _ _ _ => trivial), by rw [hU]; exact ((hZ.kept hS.2.1).narrow hf9).moved hW.alike, hN.warm hW⟩⟩ rfl rfl hl.1 rfl (lv_room (Nat.le_of_ble_eq_true rfl)) dX0_costOfFour_69 ⟨(Nat.zero_le _), (Nat.zero_le _)⟩) hS (fun q _ h => hf9 q h) hf9 (fun r u t H locs ht hvm hw hB hz1 hk1 hS => ?_)
    obtain ⟨hP, hK9, hD9⟩ := hB
    rw [ht] at hP
    try dsimp only at hw
    subst hw
    have hD := hD9.weaken (fun _ q _ h => hf9 q.1 h)
    refine lv_istore (lv' := [(8, .int y22.2), (7, .int y20.2), (6, .int s13.2.2.1), (5, .int x5), (4, .int s13.2.1), (3, .int s13.1), (0, .ref (ad a)), (1, .int p0), (2, .int p1)]) hx hb dX0_costOfFour_72 hl (by decide) rfl (fun ls hl => ?_)
    refine lv_ldcw (v := (2147483647 : Int32)) hx hb hown (hts (.constant RX0 435 (2147483647 : Int32)) (by decide +kernel)) dX0_costOfFour_74 ?_
    refine lv_istore (lv' := [(9, .int (2147483647 : Int32)), (8, .int y22.2), (7, .int y20.2), (6, .int s13.2.2.1), (5, .int x5), (4, .int s13.2.1), (3, .int s13.1), (0, .ref (ad a)), (1, .int p0), (2, .int p1)]) hx hb dX0_costOfFour_77 hl (by decide) rfl (fun ls hl => ?_)
    refine lv_iconst (v := (2 : Int32)) hx hb dX0_costOfFour_79 (by decide) ?_
    refine lv_istore (lv' := [(10, .int (2 : Int32)), (9, .int (2147483647 : Int32)), (8, .int y22.2), (7, .int y20.2), (6, .int s13.2.2.1), (5, .int x5), (4, .int s13.2.1), (3, .int s13.1), (0, .ref (ad a)), (1, .int p0), (2, .int p1)]) hx hb dX0_costOfFour_80 hl (by decide) rfl (fun ls hl => ?_)
    refine lv_iconst (v := (0 : Int32)) hx hb dX0_costOfFour_82 (by decide) ?_
    refine lv_istore (lv' := [(11, .int (0 : Int32)), (10, .int (2 : Int32)), (9, .int (2147483647 : Int32)), (8, .int y22.2), (7, .int y20.2), (6, .int s13.2.2.1), (5, .int x5), (4, .int s13.2.1), (3, .int s13.1), (0, .ref (ad a)), (1, .int p0), (2, .int p1)]) hx hb dX0_costOfFour_83 hl (by decide) rfl (fun ls hl => ?_)
    obtain ⟨y23, hy23, hF⟩ := bnd_some hF
    have K23 : ∀ (H : Heap) (locs : List Loc) (ls : Array Slot), va_P D classes (wld ct ad G y23.2.2.2) H → va_D A (wld ct ad G y23.2.2.2) → va_S A s.heap H locs → lv_has ls 13 [(11, .int y23.2.2.1), (10, .int y23.2.1), (9, .int y23.1), (8, .int y22.2), (7, .int y20.2), (6, .int s13.2.2.1), (5, .int x5), (4, .int s13.2.1), (3, .int s13.1), (0, .ref (ad a)), (1, .int p0), (2, .int p1)] → W p l e (headSpec wsX0_costOfFour ({ frames := 4, cells := 0, slots := 0, locals := 90 })).room s m ([.ref (ad a), .int p0, .int p1] : List Value).toArray below meth c H locs 0 0 (MQ below (va_Qi (fun (q : Int32) (_ : Unit) => q = y.2) (fun _ t => kE D ct ad G A y.1 t) A) ([.ref (ad a), .int p0, .int p1] : List Value).toArray s 0 0 A) (F0 m 184 ls []) := by
      intro H locs ls hP hD hS hl
      refine lv_iload_n hx hb dX0_costOfFour_184 rfl (lv_at hl 8 rfl) ?_
      refine lv_iload hx hb dX0_costOfFour_185 (lv_at hl 2 rfl) ?_
      refine lv_iadd hx hb dX0_costOfFour_187 ?_
      obtain ⟨x26, ex26, hF⟩ := ltt_some hF
      refine lv_topi (fun zx26 ezx26 => ?_)
      obtain rfl : x26 = zx26 := ex26.trans ezx26.symm
      refine lv_istore_n (lv' := [(3, .int x26), (11, .int y23.2.2.1), (10, .int y23.2.1), (9, .int y23.1), (8, .int y22.2), (7, .int y20.2), (6, .int s13.2.2.1), (5, .int x5), (4, .int s13.2.1), (0, .ref (ad a)), (1, .int p0), (2, .int p1)]) hx hb dX0_costOfFour_188 rfl hl (by decide) rfl (fun ls hl => ?_)
      refine lv_iload hx hb dX0_costOfFour_189 (lv_at hl 8 rfl) ?_
      refine lv_iload hx hb dX0_costOfFour_191 (lv_at hl 2 rfl) ?_
      refine lv_iload hx hb dX0_costOfFour_193 (lv_at hl 4 rfl) ?_
      obtain ⟨y27, hy27, hF⟩ := bnd_some hF
      have J27 : ∀ (H : Heap) (locs : List Loc) (ls : Array Slot), va_P D classes (wld ct ad G y23.2.2.2) H → va_D A (wld ct ad G y23.2.2.2) → va_S A s.heap H locs → lv_has ls 13 [(3, .int x26), (11, .int y23.2.2.1), (10, .int y23.2.1), (9, .int y23.1), (8, .int y22.2), (7, .int y20.2), (6, .int s13.2.2.1), (5, .int x5), (4, .int s13.2.1), (0, .ref (ad a)), (1, .int p0), (2, .int p1)] → W p l e (headSpec wsX0_costOfFour ({ frames := 4, cells := 0, slots := 0, locals := 90 })).room s m ([.ref (ad a), .int p0, .int p1] : List Value).toArray below meth c H locs 0 0 (MQ below (va_Qi (fun (q : Int32) (_ : Unit) => q = y.2) (fun _ t => kE D ct ad G A y.1 t) A) ([.ref (ad a), .int p0, .int p1] : List Value).toArray s 0 0 A) (F0 m 203 ls [.int y27, .int s13.2.1]) := by
        intro H locs ls hP hD hS hl
        refine lv_iadd hx hb dX0_costOfFour_203 ?_
        obtain ⟨x28, ex28, hF⟩ := ltt_some hF
        refine lv_topi (fun zx28 ezx28 => ?_)
        obtain rfl : x28 = zx28 := ex28.trans ezx28.symm
        refine lv_istore (lv' := [(4, .int x28), (3, .int x26), (11, .int y23.2.2.1), (10, .int y23.2.1), (9, .int y23.1), (8, .int y22.2), (7, .int y20.2), (6, .int s13.2.2.1), (5, .int x5), (0, .ref (ad a)), (1, .int p0), (2, .int p1)]) hx hb dX0_costOfFour_204 hl (by decide) rfl (fun ls hl => ?_)
        refine lv_aload_n hx hb dX0_costOfFour_206 rfl (lv_at hl 9 rfl) ?_
        refine va_get (D := D) (ci := 0) (v := va_re ad (y23.2.2.2.2 a 20)) (C := RX0) (T := TX0) (N := 21) hx hb hts (by decide +kernel) hown hK hP a (wld_o ct ad G y23.2.2.2 hc hk (by decide)) rfl 20 (by decide) (hts (.fieldLink RX0 75 "VideoSuite$Coder" "choice" "[I") (by decide +kernel)) (fun _ h9 => h9) rfl dX0_costOfFour_207 ?_
        refine lv_bipush (v := (13 : Int32)) hx hb dX0_costOfFour_210 (by decide) ?_
        refine lv_iload hx hb dX0_costOfFour_212 (lv_at hl 7 rfl) ?_
        refine lv_iadd hx hb dX0_costOfFour_214 ?_
        obtain ⟨x29, ex29, hF⟩ := ltt_some hF
        refine lv_topi (fun zx29 ezx29 => ?_)
        obtain rfl : x29 = zx29 := ex29.trans ezx29.symm
        refine lv_iload hx hb dX0_costOfFour_215 (lv_at hl 3 rfl) ?_
        obtain ⟨b30, ho30, hc30, hk30, hF⟩ := dr_some hF
        refine W_st (st' := [.int y23.2.1, .int x29, .ref (ad b30)]) (by rw [va_some ho30]) ?_
        obtain ⟨hvc, hF⟩ := chk_some hF
        refine va_iast hx hb hK hP hD hS b30 1 (wld_i ct ad G y23.2.2.2 hc30 hk30) rfl hvc dX0_costOfFour_217 (fun H locs hP hD hS => ?_)
        obtain ⟨M31, eM31, hF⟩ := ltt_some hF
        rw [set_i ct ad G y23.2.2.2 hc30 hk30, ← eM31] at hP hD
        refine lv_aload_n hx hb dX0_costOfFour_218 rfl (lv_at hl 9 rfl) ?_
        refine va_get (D := D) (ci := 0) (v := va_re ad (M31.2 a 3)) (C := RX0) (T := TX0) (N := 21) hx hb hts (by decide +kernel) hown hK hP a (wld_o ct ad G M31 hc hk (by decide)) rfl 3 (by decide) (hts (.fieldLink RX0 36 "VideoSuite$Coder" "work" "LVideoSuite$Work;") (by decide +kernel)) (fun _ h9 => h9) rfl dX0_costOfFour_219 ?_
        obtain ⟨b32, ho32, hc32, hk32, hF⟩ := dr_some hF
        refine W_st (st' := [.ref (ad b32)]) (by rw [va_some ho32]) ?_
        refine va_get (D := D) (ci := 9) (v := va_re ad (M31.2 b32 7)) (C := RX9) (T := TX9) (N := 20) hx hb hts (by decide +kernel) hown hK hP b32 (wld_o ct ad G M31 hc32 hk32 (by decide)) rfl 7 (by decide) (hts (.fieldLink RX0 356 "VideoSuite$Work" "mode" "[I") (by decide +kernel)) (fun _ h9 => h9) rfl dX0_costOfFour_222 ?_
        refine lv_bipush (v := (16 : Int32)) hx hb dX0_costOfFour_225 (by decide) ?_
        refine lv_iload_n hx hb dX0_costOfFour_227 rfl (lv_at hl 10 rfl) ?_
        refine lv_imul hx hb dX0_costOfFour_228 ?_
        obtain ⟨x33, ex33, hF⟩ := ltt_some hF
        refine lv_topi (fun zx33 ezx33 => ?_)
        obtain rfl : x33 = zx33 := ex33.trans ezx33.symm
        refine lv_iload hx hb dX0_costOfFour_229 (lv_at hl 7 rfl) ?_
        refine lv_iadd hx hb dX0_costOfFour_231 ?_
        obtain ⟨x34, ex34, hF⟩ := ltt_some hF
        refine lv_topi (fun zx34 ezx34 => ?_)
        obtain rfl : x34 = zx34 := ex34.trans ezx34.symm
        refine lv_iload hx hb dX0_costOfFour_232 (lv_at hl 3 rfl) ?_
        obtain ⟨b35, ho35, hc35, hk35, hF⟩ := dr_some hF
        refine W_st (st' := [.int y23.2.1, .int x34, .ref (ad b35)]) (by rw [va_some ho35]) ?_
        obtain ⟨hvc, hF⟩ := chk_some hF
        refine va_iast hx hb hK hP hD hS b35 1 (wld_i ct ad G M31 hc35 hk35) rfl hvc dX0_costOfFour_234 (fun H locs hP hD hS => ?_)
        obtain ⟨M36, eM36, hF⟩ := ltt_some hF
        rw [set_i ct ad G M31 hc35 hk35, ← eM36] at hP hD
        refine lv_aload_n hx hb dX0_costOfFour_235 rfl (lv_at hl 9 rfl) ?_
        refine va_get (D := D) (ci := 0) (v := va_re ad (M36.2 a 4)) (C := RX0) (T := TX0) (N := 21) hx hb hts (by decide +kernel) hown hK hP a (wld_o ct ad G M36 hc hk (by decide)) rfl 4 (by decide) (hts (.fieldLink RX0 43 "VideoSuite$Coder" "samples" "LVideoSuite$Samples;") (by decide +kernel)) (fun _ h9 => h9) rfl dX0_costOfFour_236 ?_
        refine lv_aload_n hx hb dX0_costOfFour_239 rfl (lv_at hl 9 rfl) ?_
        refine va_get (D := D) (ci := 0) (v := va_re ad (M36.2 a 3)) (C := RX0) (T := TX0) (N := 21) hx hb hts (by decide +kernel) hown hK hP a (wld_o ct ad G M36 hc hk (by decide)) rfl 3 (by decide) (hts (.fieldLink RX0 36 "VideoSuite$Coder" "work" "LVideoSuite$Work;") (by decide +kernel)) (fun _ h9 => h9) rfl dX0_costOfFour_240 ?_
        refine lv_iload_n hx hb dX0_costOfFour_243 rfl (lv_at hl 10 rfl) ?_
        refine lv_iload hx hb dX0_costOfFour_244 (lv_at hl 7 rfl) ?_
        refine lv_iload hx hb dX0_costOfFour_246 (lv_at hl 3 rfl) ?_
        refine lv_iload hx hb dX0_costOfFour_248 (lv_at hl 6 rfl) ?_
        obtain ⟨b37, ho37, hc37, hk37, hF⟩ := dr_some hF
        refine W_st (st' := [.int y20.2, .int y23.2.1, .int s13.2.2.1, .int p0, va_re ad (M36.2 a 3), .ref (ad b37)]) (by rw [va_some ho37]) ?_
        obtain ⟨y38, hy38, hF⟩ := bnd_some hF
        have hf9 := wA_in hD hA9 hS
        refine va_callv (va_runV (As := [va_re ad (M36.2 a 3), .int p0, .int s13.2.2.1, .int y23.2.1, .int y20.2]) (rest := []) ⟨hx, hb, hml, hown, hts⟩ (kX6_predictFour l D ct ad Z G M36 H.size b37 ((M36.2 a 3)) p0 s13.2.2.1 y23.2.1 y20.2 y38 hc37 hk37 hy38) (cwV 5 hts gX0_costOfFour_X6_predictFour rfl rfl rfl (by decide +kernel) ⟨Nat.le_of_ble_eq_true rfl, Nat.le_of_ble_eq_true rfl⟩) ⟨fun a U g mk q => by obtain ⟨q0, q1, qP, qK, qD, qZ, qN⟩ := q; exact ⟨q0, q1, qP, va_K.moved (u := U) (U := U.calling g mk a) (Vm.Alike.refl U.vm) qK, qD, sF.moved (u := U) (U := U.calling g mk a) (Vm.Alike.refl U.vm) qZ, nF.same rfl qN⟩, va_recv hK hP (ci := 6) (q0 := b37) rfl (wld_o ct ad G M36 hc37 hk37 (by decide)), fun U hU hW => ⟨rfl, by rw [hU], by rw [hU]; exact hP, va_K.moved hW.alike hK, hD.weaken (fun _ _ _ _ => trivial), by rw [hU]; exact ((hZ.kept hS.2.1).narrow hf9).moved hW.alike, hN.warm hW⟩⟩ rfl rfl hl.1 rfl (lv_room (Nat.le_of_ble_eq_true rfl)) dX0_costOfFour_250 ⟨(Nat.zero_le _), (Nat.zero_le _)⟩) hS (fun q _ h => hf9 q h) hf9 (fun u t H locs ht hvm hw hB hz1 hk1 hS => ?_)
        obtain ⟨hP, hK9, hD9⟩ := hB
        rw [ht] at hP
        have hD := hD9.weaken (fun _ q _ h => hf9 q.1 h)
        refine lv_aload_n hx hb dX0_costOfFour_253 rfl (lv_at hl 9 rfl) ?_
        refine va_get (D := D) (ci := 0) (v := va_re ad (y38.2 a 4)) (C := RX0) (T := TX0) (N := 21) hx hb hts (by decide +kernel) hown hK hP a (wld_o ct ad G y38 hc hk (by decide)) rfl 4 (by decide) (hts (.fieldLink RX0 43 "VideoSuite$Coder" "samples" "LVideoSuite$Samples;") (by decide +kernel)) (fun _ h9 => h9) rfl dX0_costOfFour_254 ?_
        refine lv_aload_n hx hb dX0_costOfFour_257 rfl (lv_at hl 9 rfl) ?_
        refine va_get (D := D) (ci := 0) (v := va_re ad (y38.2 a 3)) (C := RX0) (T := TX0) (N := 21) hx hb hts (by decide +kernel) hown hK hP a (wld_o ct ad G y38 hc hk (by decide)) rfl 3 (by decide) (hts (.fieldLink RX0 36 "VideoSuite$Coder" "work" "LVideoSuite$Work;") (by decide +kernel)) (fun _ h9 => h9) rfl dX0_costOfFour_258 ?_
        refine lv_aload_n hx hb dX0_costOfFour_261 rfl (lv_at hl 9 rfl) ?_
        refine va_get (D := D) (ci := 0) (v := va_re ad (y38.2 a 9)) (C := RX0) (T := TX0) (N := 21) hx hb hts (by decide +kernel) hown hK hP a (wld_o ct ad G y38 hc hk (by decide)) rfl 9 (by decide) (hts (.fieldLink RX0 69 "VideoSuite$Coder" "source" "[[I") (by decide +kernel)) (fun _ h9 => h9) rfl dX0_costOfFour_262 ?_
        refine lv_iconst (v := (0 : Int32)) hx hb dX0_costOfFour_265 (by decide) ?_
        obtain ⟨b39, ho39, hc39, hk39, hF⟩ := dr_some hF
        refine W_st (st' := [.int (0 : Int32), .ref (ad b39), va_re ad (y38.2 a 3), va_re ad (y38.2 a 4)]) (by rw [va_some ho39]) ?_
        obtain ⟨hvc, hF⟩ := chk_some hF
        refine ld_g hx hb hK hP hc39 hk39 hvc dX0_costOfFour_266 ?_
        refine lv_iload_n hx hb dX0_costOfFour_267 rfl (lv_at hl 10 rfl) ?_
        refine lv_iload hx hb dX0_costOfFour_268 (lv_at hl 7 rfl) ?_
        refine lv_iload hx hb dX0_costOfFour_270 (lv_at hl 8 rfl) ?_
        refine lv_iconst (v := (1 : Int32)) hx hb dX0_costOfFour_272 (by decide) ?_
        obtain ⟨b40, ho40, hc40, hk40, hF⟩ := dr_some hF
        refine W_st (st' := [.int (1 : Int32), .int x5, .int s13.2.2.1, .int p0, va_re ad (y38.2 b39 ((0 : Int32)).toNatClampNeg), va_re ad (y38.2 a 3), .ref (ad b40)]) (by rw [va_some ho40]) ?_
        obtain ⟨y41, hy41, hF⟩ := bnd_some hF
        have hf9 := wA_in hD hA9 hS
        refine va_calli (va_runV (As := [va_re ad (y38.2 a 3), va_re ad (y38.2 b39 ((0 : Int32)).toNatClampNeg), .int p0, .int s13.2.2.1, .int x5, .int (1 : Int32)]) (rest := []) ⟨hx, hb, hml, hown, hts⟩ (kX6_measureLuma l D ct ad Z G y38 H.size b40 ((y38.2 a 3)) ((y38.2 b39 ((0 : Int32)).toNatClampNeg)) p0 s13.2.2.1 x5 ((1 : Int32)) y41 hc40 hk40 hy41) (cwV 6 hts gX0_costOfFour_X6_measureLuma rfl rfl rfl (by decide +kernel) ⟨Nat.le_of_ble_eq_true rfl, Nat.le_of_ble_eq_true rfl⟩) ⟨fun a U g mk q => by obtain ⟨q0, q1, qP, qK, qD, qZ, qN⟩ := q; exact ⟨q0, q1, qP, va_K.moved (u := U) (U := U.calling g mk a) (Vm.Alike.refl U.vm) qK, qD, sF.moved (u := U) (U := U.calling g mk a) (Vm.Alike.refl U.vm) qZ, nF.same rfl qN⟩, va_recv hK hP (ci := 6) (q0 := b40) rfl (wld_o ct ad G y38 hc40 hk40 (by decide)), fun U hU hW => ⟨rfl, by rw [hU], by rw [hU]; exact hP, va_K.moved hW.alike hK, hD.weaken (fun _ _ _ _ => trivial), by rw [hU]; exact ((hZ.kept hS.2.1).narrow hf9).moved hW.alike, hN.warm hW⟩⟩ rfl rfl hl.1 rfl (lv_room (Nat.le_of_ble_eq_true rfl)) dX0_costOfFour_273 ⟨(Nat.zero_le _), (Nat.zero_le _)⟩) hS (fun q _ h => hf9 q h) hf9 (fun r u t H locs ht hvm hw hB hz1 hk1 hS => ?_)
        obtain ⟨hP, hK9, hD9⟩ := hB
        rw [ht] at hP
        try dsimp only at hw
        subst hw
        have hD := hD9.weaken (fun _ q _ h => hf9 q.1 h)
        refine lv_pop hx hb dX0_costOfFour_276 rfl ?_
        refine lv_aload_n hx hb dX0_costOfFour_277 rfl (lv_at hl 9 rfl) ?_
        refine va_get (D := D) (ci := 0) (v := va_re ad (y41.1.2 a 4)) (C := RX0) (T := TX0) (N := 21) hx hb hts (by decide +kernel) hown hK hP a (wld_o ct ad G y41.1 hc hk (by decide)) rfl 4 (by decide) (hts (.fieldLink RX0 43 "VideoSuite$Coder" "samples" "LVideoSuite$Samples;") (by decide +kernel)) (fun _ h9 => h9) rfl dX0_costOfFour_278 ?_
        refine lv_aload_n hx hb dX0_costOfFour_281 rfl (lv_at hl 9 rfl) ?_
        refine va_get (D := D) (ci := 0) (v := va_re ad (y41.1.2 a 3)) (C := RX0) (T := TX0) (N := 21) hx hb hts (by decide +kernel) hown hK hP a (wld_o ct ad G y41.1 hc hk (by decide)) rfl 3 (by decide) (hts (.fieldLink RX0 36 "VideoSuite$Coder" "work" "LVideoSuite$Work;") (by decide +kernel)) (fun _ h9 => h9) rfl dX0_costOfFour_282 ?_
        refine lv_iload_n hx hb dX0_costOfFour_285 rfl (lv_at hl 10 rfl) ?_
        refine lv_iload hx hb dX0_costOfFour_286 (lv_at hl 7 rfl) ?_
        refine lv_iload hx hb dX0_costOfFour_288 (lv_at hl 8 rfl) ?_
        obtain ⟨b42, ho42, hc42, hk42, hF⟩ := dr_some hF
        refine W_st (st' := [.int x5, .int s13.2.2.1, .int p0, va_re ad (y41.1.2 a 3), .ref (ad b42)]) (by rw [va_some ho42]) ?_
        obtain ⟨y43, hy43, hF⟩ := bnd_some hF
        have hf9 := wA_in hD hA9 hS
        refine va_callv (va_runV (As := [va_re ad (y41.1.2 a 3), .int p0, .int s13.2.2.1, .int x5]) (rest := []) ⟨hx, hb, hml, hown, hts⟩ (kX6_fillLuma l D ct ad Z G y41.1 H.size b42 ((y41.1.2 a 3)) p0 s13.2.2.1 x5 y43 hc42 hk42 hy43) (cwV 4 hts gX0_costOfFour_X6_fillLuma rfl rfl rfl (by decide +kernel) ⟨Nat.le_of_ble_eq_true rfl, Nat.le_of_ble_eq_true rfl⟩) ⟨fun a U g mk q => by obtain ⟨q0, q1, qP, qK, qD, qZ, qN⟩ := q; exact ⟨q0, q1, qP, va_K.moved (u := U) (U := U.calling g mk a) (Vm.Alike.refl U.vm) qK, qD, sF.moved (u := U) (U := U.calling g mk a) (Vm.Alike.refl U.vm) qZ, nF.same rfl qN⟩, va_recv hK hP (ci := 6) (q0 := b42) rfl (wld_o ct ad G y41.1 hc42 hk42 (by decide)), fun U hU hW => ⟨rfl, by rw [hU], by rw [hU]; exact hP, va_K.moved hW.alike hK, hD.weaken (fun _ _ _ _ => trivial), by rw [hU]; exact ((hZ.kept hS.2.1).narrow hf9).moved hW.alike, hN.warm hW⟩⟩ rfl rfl hl.1 rfl (lv_room (Nat.le_of_ble_eq_true rfl)) dX0_costOfFour_290 ⟨(Nat.zero_le _), (Nat.zero_le _)⟩) hS (fun q _ h => hf9 q h) hf9 (fun u t H locs ht hvm hw hB hz1 hk1 hS => ?_)
        obtain ⟨hP, hK9, hD9⟩ := hB
        rw [ht] at hP
        have hD := hD9.weaken (fun _ q _ h => hf9 q.1 h)
        obtain ⟨x44, ex44, hF⟩ := ltt_some hF
        refine lv_iinc (v := x44) (lv' := [(6, .int x44), (4, .int x28), (3, .int x26), (11, .int y23.2.2.1), (10, .int y23.2.1), (9, .int y23.1), (8, .int y22.2), (7, .int y20.2), (5, .int x5), (0, .ref (ad a)), (1, .int p0), (2, .int p1)]) hx hb dX0_costOfFour_293 hl (k := 7) rfl (by rw [ex44]; rfl) (by decide) rfl (fun ls hl => ?_)
        refine lv_goto (tgt := 47) hx hb dX0_costOfFour_296 (by decide) ?_
        obtain rfl := Option.some.inj hF
        exact hwz18 _ _ _ hP hD hS (lv_sub hl [0, 8, 1, 2, 9, 10, 11] rfl)
      clear hF
      have hF := hy27
      clear hy27
      refine lv_icmp_ne (tgt := 202) hx hb dX0_costOfFour_195 (by decide) (fun c45 => ?_) (fun c45 => ?_)
      · rw [if_neg c45] at hF
        refine lv_iconst (v := (4 : Int32)) hx hb dX0_costOfFour_202 (by decide) ?_
        obtain rfl := Option.some.inj hF
        exact J27 _ _ _ hP hD hS (lv_sub hl [0, 1, 2, 3, 4, 5, 6, 7, 8, 9, 10, 11] rfl)
      · rw [if_pos c45] at hF
        refine lv_iconst (v := (1 : Int32)) hx hb dX0_costOfFour_198 (by decide) ?_
        refine lv_goto (tgt := 203) hx hb dX0_costOfFour_199 (by decide) ?_
        obtain rfl := Option.some.inj hF
        exact J27 _ _ _ hP hD hS (lv_sub hl [0, 1, 2, 3, 4, 5, 6, 7, 8, 9, 10, 11] rfl)
    clear hF
    refine itr_rule (fun (s24 : Int32 × Int32 × Int32 × DD) => ∀ (H : Heap) (locs : List Loc) (ls : Array Slot), va_P D classes (wld ct ad G s24.2.2.2) H → va_D A (wld ct ad G s24.2.2.2) → va_S A s.heap H locs → lv_has ls 13 [(11, .int s24.2.2.1), (10, .int s24.2.1), (9, .int s24.1), (8, .int y22.2), (7, .int y20.2), (6, .int s13.2.2.1), (5, .int x5), (4, .int s13.2.1), (3, .int s13.1), (0, .ref (ad a)), (1, .int p0), (2, .int p1)] → W p l e (headSpec wsX0_costOfFour ({ frames := 4, cells := 0, slots := 0, locals := 90 })).room s m ([.ref (ad a), .int p0, .int p1] : List Value).toArray below meth c H locs 0 0 (MQ below (va_Qi (fun (q : Int32) (_ : Unit) => q = y.2) (fun _ t => kE D ct ad G A y.1 t) A) ([.ref (ad a), .int p0, .int p1] : List Value).toArray s 0 0 A) (F0 m 85 ls [])) ?_ _ _ hy23 _ _ _ hP hD hS (lv_sub hl [0, 1, 2, 3, 4, 5, 6, 7, 8, 9, 10, 11] rfl)
    rintro s24 ⟨z46, hF, hwz46⟩ H locs ls hP hD hS hl
    try dsimp only at hF
    refine lv_iload hx hb dX0_costOfFour_85 (lv_at hl 0 rfl) ?_
    refine lv_bipush (v := (9 : Int32)) hx hb dX0_costOfFour_87 (by decide) ?_
    refine lv_icmp_ge (tgt := 184) hx hb dX0_costOfFour_89 (by decide) (fun c47 => ?_) (fun c47 => ?_)
    · rw [if_pos c47] at hF
      obtain rfl := Option.some.inj hF
      subst hwz46
      exact K23 _ _ _ hP hD hS (lv_sub hl [0, 1, 2, 3, 4, 5, 6, 7, 8, 9, 10, 11] rfl)
    · rw [if_neg c47] at hF
      refine lv_iload hx hb dX0_costOfFour_92 (lv_at hl 0 rfl) ?_
      refine lv_iload hx hb dX0_costOfFour_94 (lv_at hl 4 rfl) ?_
      obtain ⟨y48, hy48, hF⟩ := bnd_some hF
      have hf9 := wA_in hD hA9 hS
      refine va_calli (va_runS (As := [.int s24.2.2.1, .int y20.2]) (rest := []) ⟨hx, hb, hml, hown, hts⟩ (kX9_mayBeFour l D ct ad Z G s24.2.2.2 H.size s24.2.2.1 y20.2 y48 hy48) (va_cwS 2 hts gX0_costOfFour_X9_mayBeFour rfl rfl rfl (by decide +kernel) ⟨Nat.le_of_ble_eq_true rfl, Nat.le_of_ble_eq_true rfl⟩) ⟨fun a U g mk q => by obtain ⟨q0, q1, qP, qK, qD, qZ, qN⟩ := q; exact ⟨q0, q1, qP, va_K.moved (u := U) (U := U.calling g mk a) (Vm.Alike.refl U.vm) qK, qD, sF.moved (u := U) (U := U.calling g mk a) (Vm.Alike.refl U.vm) qZ, nF.same rfl qN⟩, fun U hU hW => ⟨rfl, by rw [hU], by rw [hU]; exact hP, va_K.moved hW.alike hK, hD.weaken (fun _ _ _ _ => trivial), by rw [hU]; exact ((hZ.kept hS.2.1).narrow hf9).moved hW.alike, hN.warm hW⟩⟩ rfl rfl hl.1 rfl (lv_room (Nat.le_of_ble_eq_true rfl)) dX0_costOfFour_96 ⟨(Nat.zero_le _), (Nat.zero_le _)⟩) hS (fun q _ h => hf9 q h) hf9 (fun r u t H locs ht hvm hw hB hz1 hk1 hS => ?_)
      obtain ⟨hP, hK9, hD9⟩ := hB
      rw [ht] at hP
      try dsimp only at hw
      subst hw
      have hD := hD9.weaken (fun _ q _ h => hf9 q.1 h)
      obtain ⟨y49, hy49, hF⟩ := bnd_some hF
      have J49 : ∀ (H : Heap) (locs : List Loc) (ls : Array Slot), va_P D classes (wld ct ad G y49.2.2) H → va_D A (wld ct ad G y49.2.2) → va_S A s.heap H locs → lv_has ls 13 [(11, .int s24.2.2.1), (10, .int y49.2.1), (9, .int y49.1), (8, .int y22.2), (7, .int y20.2), (6, .int s13.2.2.1), (5, .int x5), (4, .int s13.2.1), (3, .int s13.1), (0, .ref (ad a)), (1, .int p0), (2, .int p1)] → W p l e (headSpec wsX0_costOfFour ({ frames := 4, cells := 0, slots := 0, locals := 90 })).room s m ([.ref (ad a), .int p0, .int p1] : List Value).toArray below meth c H locs 0 0 (MQ below (va_Qi (fun (q : Int32) (_ : Unit) => q = y.2) (fun _ t => kE D ct ad G A y.1 t) A) ([.ref (ad a), .int p0, .int p1] : List Value).toArray s 0 0 A) (F0 m 178 ls []) := by
        intro H locs ls hP hD hS hl
        obtain ⟨x50, ex50, hF⟩ := ltt_some hF
        refine lv_iinc (v := x50) (lv' := [(11, .int x50), (10, .int y49.2.1), (9, .int y49.1), (8, .int y22.2), (7, .int y20.2), (6, .int s13.2.2.1), (5, .int x5), (4, .int s13.2.1), (3, .int s13.1), (0, .ref (ad a)), (1, .int p0), (2, .int p1)]) hx hb dX0_costOfFour_178 hl (k := 0) rfl (by rw [ex50]; rfl) (by decide) rfl (fun ls hl => ?_)
        refine lv_goto (tgt := 85) hx hb dX0_costOfFour_181 (by decide) ?_
        obtain rfl := Option.some.inj hF
        exact hwz46 _ _ _ hP hD hS (lv_sub hl [0, 1, 2, 3, 4, 5, 6, 7, 8, 9, 10, 11] rfl)
      clear hF
      have hF := hy49
      clear hy49
      refine lv_if_ne (tgt := 105) hx hb dX0_costOfFour_99 (by decide) (fun c51 => ?_) (fun c51 => ?_)
      · rw [if_neg c51] at hF
        refine lv_aload_n hx hb dX0_costOfFour_105 rfl (lv_at hl 9 rfl) ?_
        refine va_get (D := D) (ci := 0) (v := va_re ad (y48.1.2 a 4)) (C := RX0) (T := TX0) (N := 21) hx hb hts (by decide +kernel) hown hK hP a (wld_o ct ad G y48.1 hc hk (by decide)) rfl 4 (by decide) (hts (.fieldLink RX0 43 "VideoSuite$Coder" "samples" "LVideoSuite$Samples;") (by decide +kernel)) (fun _ h9 => h9) rfl dX0_costOfFour_106 ?_
        refine lv_aload_n hx hb dX0_costOfFour_109 rfl (lv_at hl 9 rfl) ?_
        refine va_get (D := D) (ci := 0) (v := va_re ad (y48.1.2 a 3)) (C := RX0) (T := TX0) (N := 21) hx hb hts (by decide +kernel) hown hK hP a (wld_o ct ad G y48.1 hc hk (by decide)) rfl 3 (by decide) (hts (.fieldLink RX0 36 "VideoSuite$Coder" "work" "LVideoSuite$Work;") (by decide +kernel)) (fun _ h9 => h9) rfl dX0_costOfFour_110 ?_
        refine lv_iload_n hx hb dX0_costOfFour_113 rfl (lv_at hl 10 rfl) ?_
        refine lv_iload hx hb dX0_costOfFour_114 (lv_at hl 5 rfl) ?_
        refine lv_iload hx hb dX0_costOfFour_116 (lv_at hl 0 rfl) ?_
        refine lv_iload hx hb dX0_costOfFour_118 (lv_at hl 4 rfl) ?_
        obtain ⟨b52, ho52, hc52, hk52, hF⟩ := dr_some hF
        refine W_st (st' := [.int y20.2, .int s24.2.2.1, .int s13.2.2.1, .int p0, va_re ad (y48.1.2 a 3), .ref (ad b52)]) (by rw [va_some ho52]) ?_
        obtain ⟨y53, hy53, hF⟩ := bnd_some hF
        have hf9 := wA_in hD hA9 hS
        refine va_callv (va_runV (As := [va_re ad (y48.1.2 a 3), .int p0, .int s13.2.2.1, .int s24.2.2.1, .int y20.2]) (rest := []) ⟨hx, hb, hml, hown, hts⟩ (kX6_predictFour l D ct ad Z G y48.1 H.size b52 ((y48.1.2 a 3)) p0 s13.2.2.1 s24.2.2.1 y20.2 y53 hc52 hk52 hy53) (cwV 5 hts gX0_costOfFour_X6_predictFour rfl rfl rfl (by decide +kernel) ⟨Nat.le_of_ble_eq_true rfl, Nat.le_of_ble_eq_true rfl⟩) ⟨fun a U g mk q => by obtain ⟨q0, q1, qP, qK, qD, qZ, qN⟩ := q; exact ⟨q0, q1, qP, va_K.moved (u := U) (U := U.calling g mk a) (Vm.Alike.refl U.vm) qK, qD, sF.moved (u := U) (U := U.calling g mk a) (Vm.Alike.refl U.vm) qZ, nF.same rfl qN⟩, va_recv hK hP (ci := 6) (q0 := b52) rfl (wld_o ct ad G y48.1 hc52 hk52 (by decide)), fun U hU hW => ⟨rfl, by rw [hU], by rw [hU]; exact hP, va_K.moved hW.alike hK, hD.weaken (fun _ _ _ _ => trivial), by rw [hU]; exact ((hZ.kept hS.2.1).narrow hf9).moved hW.alike, hN.warm hW⟩⟩ rfl rfl hl.1 rfl (lv_room (Nat.le_of_ble_eq_true rfl)) dX0_costOfFour_120 ⟨(Nat.zero_le _), (Nat.zero_le _)⟩) hS (fun q _ h => hf9 q h) hf9 (fun u t H locs ht hvm hw hB hz1 hk1 hS => ?_)
        obtain ⟨hP, hK9, hD9⟩ := hB
        rw [ht] at hP
        have hD := hD9.weaken (fun _ q _ h => hf9 q.1 h)
        refine lv_aload_n hx hb dX0_costOfFour_123 rfl (lv_at hl 9 rfl) ?_
        refine va_get (D := D) (ci := 0) (v := va_re ad (y53.2 a 4)) (C := RX0) (T := TX0) (N := 21) hx hb hts (by decide +kernel) hown hK hP a (wld_o ct ad G y53 hc hk (by decide)) rfl 4 (by decide) (hts (.fieldLink RX0 43 "VideoSuite$Coder" "samples" "LVideoSuite$Samples;") (by decide +kernel)) (fun _ h9 => h9) rfl dX0_costOfFour_124 ?_
        refine lv_aload_n hx hb dX0_costOfFour_127 rfl (lv_at hl 9 rfl) ?_
        refine va_get (D := D) (ci := 0) (v := va_re ad (y53.2 a 3)) (C := RX0) (T := TX0) (N := 21) hx hb hts (by decide +kernel) hown hK hP a (wld_o ct ad G y53 hc hk (by decide)) rfl 3 (by decide) (hts (.fieldLink RX0 36 "VideoSuite$Coder" "work" "LVideoSuite$Work;") (by decide +kernel)) (fun _ h9 => h9) rfl dX0_costOfFour_128 ?_
        refine lv_aload_n hx hb dX0_costOfFour_131 rfl (lv_at hl 9 rfl) ?_
        refine va_get (D := D) (ci := 0) (v := va_re ad (y53.2 a 9)) (C := RX0) (T := TX0) (N := 21) hx hb hts (by decide +kernel) hown hK hP a (wld_o ct ad G y53 hc hk (by decide)) rfl 9 (by decide) (hts (.fieldLink RX0 69 "VideoSuite$Coder" "source" "[[I") (by decide +kernel)) (fun _ h9 => h9) rfl dX0_costOfFour_132 ?_
        refine lv_iconst (v := (0 : Int32)) hx hb dX0_costOfFour_135 (by decide) ?_
        obtain ⟨b54, ho54, hc54, hk54, hF⟩ := dr_some hF
        refine W_st (st' := [.int (0 : Int32), .ref (ad b54), va_re ad (y53.2 a 3), va_re ad (y53.2 a 4)]) (by rw [va_some ho54]) ?_
        obtain ⟨hvc, hF⟩ := chk_some hF
        refine ld_g hx hb hK hP hc54 hk54 hvc dX0_costOfFour_136 ?_
        refine lv_iload_n hx hb dX0_costOfFour_137 rfl (lv_at hl 10 rfl) ?_
        refine lv_iload hx hb dX0_costOfFour_138 (lv_at hl 5 rfl) ?_
        refine lv_iconst (v := (4 : Int32)) hx hb dX0_costOfFour_140 (by decide) ?_
        obtain ⟨b55, ho55, hc55, hk55, hF⟩ := dr_some hF
        refine W_st (st' := [.int (4 : Int32), .int s13.2.2.1, .int p0, va_re ad (y53.2 b54 ((0 : Int32)).toNatClampNeg), va_re ad (y53.2 a 3), .ref (ad b55)]) (by rw [va_some ho55]) ?_
        obtain ⟨y56, hy56, hF⟩ := bnd_some hF
        have hf9 := wA_in hD hA9 hS
        refine va_calli (va_runV (As := [va_re ad (y53.2 a 3), va_re ad (y53.2 b54 ((0 : Int32)).toNatClampNeg), .int p0, .int s13.2.2.1, .int (4 : Int32)]) (rest := []) ⟨hx, hb, hml, hown, hts⟩ (kX6_differences l D ct ad Z G y53 H.size b55 ((y53.2 a 3)) ((y53.2 b54 ((0 : Int32)).toNatClampNeg)) p0 s13.2.2.1 ((4 : Int32)) y56 hc55 hk55 hy56) (cwV 5 hts gX0_costOfFour_X6_differences rfl rfl rfl (by decide +kernel) ⟨Nat.le_of_ble_eq_true rfl, Nat.le_of_ble_eq_true rfl⟩) ⟨fun a U g mk q => by obtain ⟨q0, q1, qP, qK, qD, qZ, qN⟩ := q; exact ⟨q0, q1, qP, va_K.moved (u := U) (U := U.calling g mk a) (Vm.Alike.refl U.vm) qK, qD, sF.moved (u := U) (U := U.calling g mk a) (Vm.Alike.refl U.vm) qZ, nF.same rfl qN⟩, va_recv hK hP (ci := 6) (q0 := b55) rfl (wld_o ct ad G y53 hc55 hk55 (by decide)), fun U hU hW => ⟨rfl, by rw [hU], by rw [hU]; exact hP, va_K.moved hW.alike hK, hD.weaken (fun _ _ _ _ => trivial), by rw [hU]; exact ((hZ.kept hS.2.1).narrow hf9).moved hW.alike, hN.warm hW⟩⟩ rfl rfl hl.1 rfl (lv_room (Nat.le_of_ble_eq_true rfl)) dX0_costOfFour_141 ⟨(Nat.zero_le _), (Nat.zero_le _)⟩) hS (fun q _ h => hf9 q h) hf9 (fun r u t H locs ht hvm hw hB hz1 hk1 hS => ?_)
        obtain ⟨hP, hK9, hD9⟩ := hB
        rw [ht] at hP
        try dsimp only at hw
        subst hw
        have hD := hD9.weaken (fun _ q _ h => hf9 q.1 h)
        refine lv_istore (lv' := [(12, .int y56.2), (11, .int s24.2.2.1), (10, .int s24.2.1), (9, .int s24.1), (8, .int y22.2), (7, .int y20.2), (6, .int s13.2.2.1), (5, .int x5), (4, .int s13.2.1), (3, .int s13.1), (0, .ref (ad a)), (1, .int p0), (2, .int p1)]) hx hb dX0_costOfFour_144 hl (by decide) rfl (fun ls hl => ?_)
        refine lv_iload hx hb dX0_costOfFour_146 (lv_at hl 0 rfl) ?_
        refine lv_iload hx hb dX0_costOfFour_148 (lv_at hl 3 rfl) ?_
        obtain ⟨y57, hy57, hF⟩ := bnd_some hF
        have J57 : ∀ (H : Heap) (locs : List Loc) (ls : Array Slot), va_P D classes (wld ct ad G y56.1) H → va_D A (wld ct ad G y56.1) → va_S A s.heap H locs → lv_has ls 13 [(12, .int y56.2), (11, .int s24.2.2.1), (10, .int s24.2.1), (9, .int s24.1), (8, .int y22.2), (7, .int y20.2), (6, .int s13.2.2.1), (5, .int x5), (4, .int s13.2.1), (3, .int s13.1), (0, .ref (ad a)), (1, .int p0), (2, .int p1)] → W p l e (headSpec wsX0_costOfFour ({ frames := 4, cells := 0, slots := 0, locals := 90 })).room s m ([.ref (ad a), .int p0, .int p1] : List Value).toArray below meth c H locs 0 0 (MQ below (va_Qi (fun (q : Int32) (_ : Unit) => q = y.2) (fun _ t => kE D ct ad G A y.1 t) A) ([.ref (ad a), .int p0, .int p1] : List Value).toArray s 0 0 A) (F0 m 160 ls [.int y57]) := by
          intro H locs ls hP hD hS hl
          refine lv_istore (lv' := [(10, .int y57), (12, .int y56.2), (11, .int s24.2.2.1), (9, .int s24.1), (8, .int y22.2), (7, .int y20.2), (6, .int s13.2.2.1), (5, .int x5), (4, .int s13.2.1), (3, .int s13.1), (0, .ref (ad a)), (1, .int p0), (2, .int p1)]) hx hb dX0_costOfFour_160 hl (by decide) rfl (fun ls hl => ?_)
          refine lv_iload hx hb dX0_costOfFour_162 (lv_at hl 1 rfl) ?_
          refine lv_iload hx hb dX0_costOfFour_164 (lv_at hl 3 rfl) ?_
          obtain ⟨y58, hy58, hF⟩ := bnd_some hF
          have J58 : ∀ (H : Heap) (locs : List Loc) (ls : Array Slot), va_P D classes (wld ct ad G y56.1) H → va_D A (wld ct ad G y56.1) → va_S A s.heap H locs → lv_has ls 13 [(10, .int y57), (12, .int y56.2), (11, .int s24.2.2.1), (9, .int s24.1), (8, .int y22.2), (7, .int y20.2), (6, .int s13.2.2.1), (5, .int x5), (4, .int s13.2.1), (3, .int s13.1), (0, .ref (ad a)), (1, .int p0), (2, .int p1)] → W p l e (headSpec wsX0_costOfFour ({ frames := 4, cells := 0, slots := 0, locals := 90 })).room s m ([.ref (ad a), .int p0, .int p1] : List Value).toArray below meth c H locs 0 0 (MQ below (va_Qi (fun (q : Int32) (_ : Unit) => q = y.2) (fun _ t => kE D ct ad G A y.1 t) A) ([.ref (ad a), .int p0, .int p1] : List Value).toArray s 0 0 A) (F0 m 176 ls [.int y58]) := by
            intro H locs ls hP hD hS hl
            refine lv_istore (lv' := [(9, .int y58), (10, .int y57), (12, .int y56.2), (11, .int s24.2.2.1), (8, .int y22.2), (7, .int y20.2), (6, .int s13.2.2.1), (5, .int x5), (4, .int s13.2.1), (3, .int s13.1), (0, .ref (ad a)), (1, .int p0), (2, .int p1)]) hx hb dX0_costOfFour_176 hl (by decide) rfl (fun ls hl => ?_)
            obtain rfl := Option.some.inj hF
            exact J49 _ _ _ hP hD hS (lv_sub hl [3, 1, 0, 4, 5, 6, 7, 8, 9, 10, 11, 12] rfl)
          clear hF
          have hF := hy58
          clear hy58
          refine lv_icmp_ge (tgt := 174) hx hb dX0_costOfFour_166 (by decide) (fun c59 => ?_) (fun c59 => ?_)
          · rw [if_pos c59] at hF
            refine lv_iload hx hb dX0_costOfFour_174 (lv_at hl 3 rfl) ?_
            obtain rfl := Option.some.inj hF
            exact J58 _ _ _ hP hD hS (lv_sub hl [0, 1, 2, 3, 4, 5, 6, 7, 8, 9, 10, 11, 12] rfl)
          · rw [if_neg c59] at hF
            refine lv_iload hx hb dX0_costOfFour_169 (lv_at hl 1 rfl) ?_
            refine lv_goto (tgt := 176) hx hb dX0_costOfFour_171 (by decide) ?_
            obtain rfl := Option.some.inj hF
            exact J58 _ _ _ hP hD hS (lv_sub hl [0, 1, 2, 3, 4, 5, 6, 7, 8, 9, 10, 11, 12] rfl)
        clear hF
        have hF := hy57
        clear hy57
        refine lv_icmp_ge (tgt := 158) hx hb dX0_costOfFour_150 (by decide) (fun c60 => ?_) (fun c60 => ?_)
        · rw [if_pos c60] at hF
          refine lv_iload hx hb dX0_costOfFour_158 (lv_at hl 2 rfl) ?_
          obtain rfl := Option.some.inj hF
          exact J57 _ _ _ hP hD hS (lv_sub hl [0, 1, 2, 3, 4, 5, 6, 7, 8, 9, 10, 11, 12] rfl)
        · rw [if_neg c60] at hF
          refine lv_iload hx hb dX0_costOfFour_153 (lv_at hl 1 rfl) ?_
          refine lv_goto (tgt := 160) hx hb dX0_costOfFour_155 (by decide) ?_
          obtain rfl := Option.some.inj hF
          exact J57 _ _ _ hP hD hS (lv_sub hl [0, 1, 2, 3, 4, 5, 6, 7, 8, 9, 10, 11, 12] rfl)
      · rw [if_pos c51] at hF
        refine lv_goto (tgt := 178) hx hb dX0_costOfFour_102 (by decide) ?_
        obtain rfl := Option.some.inj hF
        exact J49 _ _ _ hP hD hS (lv_sub hl [0, 1, 2, 3, 4, 5, 6, 7, 8, 9, 10, 11] rfl)
theorem ggX0_drawSubs_X0_draw : GoodIn wsX0_drawSubs wsX0_draw := goodIn_r _ [7, 8, 9, 10, 101, 102, 103, 104, 105, 106, 107, 108, 109, 110, 111, 112, 113, 114, 115, 116, 117, 118, 119, 120, 121] (by decide +kernel) (by decide +kernel)
set_option maxRecDepth 20000 in
theorem gX0_drawSubs_X0_draw : GoodIn wsX0_drawSubs (wsV RX0 334 RX0 yX0_draw wsX0_draw) := goodIn_app (goodIn_of _ (by decide +kernel)) ggX0_drawSubs_X0_draw
set_option maxRecDepth 20000 in
theorem ggX0_drawSubs_X9_direct : GoodIn wsX0_drawSubs wsX9_direct := goodIn_r _ [15, 16, 17, 18, 19, 20, 21, 22, 23, 14, 24, 25, 26, 27, 28, 29, 30, 31, 32, 33, 34, 35, 36, 37, 38, 39, 40, 41, 42, 43, 44, 45, 46, 47, 48, 49, 50, 51, 52, 53, 54, 55, 56, 57, 58, 59, 60, 61, 62, 63, 64, 65, 66, 67, 68, 69, 70, 71, 72, 73, 74, 75, 76, 77, 78, 79, 80, 81, 82, 83, 84, 85, 86, 87, 88, 89, 90, 91, 92, 93, 94, 95, 96, 97, 98, 99, 100, 122, 123, 124, 125, 126, 127, 128, 129, 130, 131, 132, 133, 134, 135, 136, 137, 138, 139, 140, 141, 142, 143, 144, 145, 146, 147, 148, 149, 150, 151, 152, 153, 154, 155, 156, 157, 158, 159, 160, 161, 162, 163] (by decide +kernel) (by decide +kernel)
set_option maxRecDepth 20000 in
theorem gX0_drawSubs_X9_direct : GoodIn wsX0_drawSubs (wsV RX0 372 RX9 yX9_direct wsX9_direct) := goodIn_app (goodIn_of _ (by decide +kernel)) ggX0_drawSubs_X9_direct
theorem dX0_drawSubs_0 : decode cX0_drawSubs 0 = .ok (.iconst 0, 1) := by decide +kernel
theorem dX0_drawSubs_1 : decode cX0_drawSubs 1 = .ok (.istore_n 3, 1) := by decide +kernel
theorem dX0_drawSubs_2 : decode cX0_drawSubs 2 = .ok (.iconst 0, 1) := by decide +kernel
theorem dX0_drawSubs_3 : decode cX0_drawSubs 3 = .ok (.istore 4, 2) := by decide +kernel
theorem dX0_drawSubs_5 : decode cX0_drawSubs 5 = .ok (.iload 4, 2) := by decide +kernel
theorem dX0_drawSubs_7 : decode cX0_drawSubs 7 = .ok (.iconst 4, 1) := by decide +kernel
theorem dX0_drawSubs_8 : decode cX0_drawSubs 8 = .ok (.if_icmp .ge 85, 3) := by decide +kernel
theorem dX0_drawSubs_11 : decode cX0_drawSubs 11 = .ok (.aload_n 0, 1) := by decide +kernel
theorem dX0_drawSubs_12 : decode cX0_drawSubs 12 = .ok (.iload_n 2, 1) := by decide +kernel
theorem dX0_drawSubs_13 : decode cX0_drawSubs 13 = .ok (.ifCond .ne 7, 3) := by decide +kernel
theorem dX0_drawSubs_16 : decode cX0_drawSubs 16 = .ok (.iconst 4, 1) := by decide +kernel
theorem dX0_drawSubs_17 : decode cX0_drawSubs 17 = .ok (.goto 5, 3) := by decide +kernel
theorem dX0_drawSubs_20 : decode cX0_drawSubs 20 = .ok (.bipush 13, 2) := by decide +kernel
theorem dX0_drawSubs_22 : decode cX0_drawSubs 22 = .ok (.invokevirtual 334, 3) := by decide +kernel
theorem dX0_drawSubs_25 : decode cX0_drawSubs 25 = .ok (.istore 5, 2) := by decide +kernel
theorem dX0_drawSubs_27 : decode cX0_drawSubs 27 = .ok (.iload_n 2, 1) := by decide +kernel
theorem dX0_drawSubs_28 : decode cX0_drawSubs 28 = .ok (.iconst 1, 1) := by decide +kernel
theorem dX0_drawSubs_29 : decode cX0_drawSubs 29 = .ok (.if_icmp .ne 46, 3) := by decide +kernel
theorem dX0_drawSubs_32 : decode cX0_drawSubs 32 = .ok (.iload 5, 2) := by decide +kernel
theorem dX0_drawSubs_34 : decode cX0_drawSubs 34 = .ok (.ifCond .ne 41, 3) := by decide +kernel
theorem dX0_drawSubs_37 : decode cX0_drawSubs 37 = .ok (.aload_n 0, 1) := by decide +kernel
theorem dX0_drawSubs_38 : decode cX0_drawSubs 38 = .ok (.getfield 36, 3) := by decide +kernel
theorem dX0_drawSubs_41 : decode cX0_drawSubs 41 = .ok (.iload_n 1, 1) := by decide +kernel
theorem dX0_drawSubs_42 : decode cX0_drawSubs 42 = .ok (.iconst 1, 1) := by decide +kernel
theorem dX0_drawSubs_43 : decode cX0_drawSubs 43 = .ok (.iload 4, 2) := by decide +kernel
theorem dX0_drawSubs_45 : decode cX0_drawSubs 45 = .ok (.ishl, 1) := by decide +kernel
theorem dX0_drawSubs_46 : decode cX0_drawSubs 46 = .ok (.invokevirtual 372, 3) := by decide +kernel
theorem dX0_drawSubs_49 : decode cX0_drawSubs 49 = .ok (.ifCond .eq 7, 3) := by decide +kernel
theorem dX0_drawSubs_52 : decode cX0_drawSubs 52 = .ok (.iconst 0, 1) := by decide +kernel
theorem dX0_drawSubs_53 : decode cX0_drawSubs 53 = .ok (.goto 4, 3) := by decide +kernel
theorem dX0_drawSubs_56 : decode cX0_drawSubs 56 = .ok (.iconst 1, 1) := by decide +kernel
theorem dX0_drawSubs_57 : decode cX0_drawSubs 57 = .ok (.istore 5, 2) := by decide +kernel
theorem dX0_drawSubs_59 : decode cX0_drawSubs 59 = .ok (.iload_n 3, 1) := by decide +kernel
theorem dX0_drawSubs_60 : decode cX0_drawSubs 60 = .ok (.iload 5, 2) := by decide +kernel
theorem dX0_drawSubs_62 : decode cX0_drawSubs 62 = .ok (.ifCond .ne 10, 3) := by decide +kernel
theorem dX0_drawSubs_65 : decode cX0_drawSubs 65 = .ok (.iconst 1, 1) := by decide +kernel
theorem dX0_drawSubs_66 : decode cX0_drawSubs 66 = .ok (.iload 4, 2) := by decide +kernel
theorem dX0_drawSubs_68 : decode cX0_drawSubs 68 = .ok (.ishl, 1) := by decide +kernel
theorem dX0_drawSubs_69 : decode cX0_drawSubs 69 = .ok (.goto 4, 3) := by decide +kernel
theorem dX0_drawSubs_72 : decode cX0_drawSubs 72 = .ok (.iconst 0, 1) := by decide +kernel
theorem dX0_drawSubs_73 : decode cX0_drawSubs 73 = .ok (.ior, 1) := by decide +kernel
theorem dX0_drawSubs_74 : decode cX0_drawSubs 74 = .ok (.istore_n 3, 1) := by decide +kernel
theorem dX0_drawSubs_75 : decode cX0_drawSubs 75 = .ok (.aload_n 0, 1) := by decide +kernel
theorem dX0_drawSubs_76 : decode cX0_drawSubs 76 = .ok (.getfield 36, 3) := by decide +kernel
theorem dX0_drawSubs_79 : decode cX0_drawSubs 79 = .ok (.getfield 400, 3) := by decide +kernel
theorem dX0_drawSubs_82 : decode cX0_drawSubs 82 = .ok (.iload 4, 2) := by decide +kernel
theorem dX0_drawSubs_84 : decode cX0_drawSubs 84 = .ok (.iload 5, 2) := by decide +kernel
theorem dX0_drawSubs_86 : decode cX0_drawSubs 86 = .ok (.iastore, 1) := by decide +kernel
theorem dX0_drawSubs_87 : decode cX0_drawSubs 87 = .ok (.iinc 4 1, 3) := by decide +kernel
theorem dX0_drawSubs_90 : decode cX0_drawSubs 90 = .ok (.goto (-85), 3) := by decide +kernel
theorem dX0_drawSubs_93 : decode cX0_drawSubs 93 = .ok (.iload_n 3, 1) := by decide +kernel
theorem dX0_drawSubs_94 : decode cX0_drawSubs 94 = .ok (.ireturn, 1) := by decide +kernel
def FX0_drawSubs (G : GG) (M : DD) (a : Nat) (p0 : Int32) (p1 : Int32) : Option (DD × Int32) :=
  bnd (itr (fun (s2 : Int32 × Int32 × DD) => ((if ((4 : Int32)) ≤ s2.2.1 then (some (.inr (s2.1, s2.2.1, s2.2.2))) else
  (bnd (if p1 = ((0 : Int32)) then (some ((4 : Int32))) else
  (some ((13 : Int32)))) fun (y6 : Int32) =>
  bnd (FX0_draw G s2.2.2 a y6) fun y7 =>
  bnd (if p1 = ((1 : Int32)) then (bnd (if y7.2 = ((0 : Int32)) then (ltt ((((1 : Int32)) <<< (s2.2.1 &&& 31))) fun x16 =>
  dr G 9 ((y7.1.2 a 3)) fun b17 =>
  bnd (FX9_direct G y7.1 b17 p0 x16) fun y18 =>
  bnd (if y18.2 = ((0 : Int32)) then (some ((1 : Int32))) else
  (some ((0 : Int32)))) fun (y19 : Int32) =>
  bnd (if y19 = ((0 : Int32)) then (ltt ((((1 : Int32)) <<< (s2.2.1 &&& 31))) fun x23 =>
  some (x23)) else
  (some ((0 : Int32)))) fun (y20 : Int32) =>
  ltt ((s2.1 ||| y20)) fun x21 =>
  some (x21, y19, y18.1)) else
  (some (s2.1, y7.2, y7.1))) fun (y14 : Int32 × Int32 × DD) =>
  some (y14.1, y14.2.1, y14.2.2)) else
  (some (s2.1, y7.2, y7.1))) fun (y8 : Int32 × Int32 × DD) =>
  dr G 9 ((y8.2.2.2 a 3)) fun b9 =>
  dr G 13 ((y8.2.2.2 b9 12)) fun b10 =>
  chk (¬ (s2.2.1 < 0 ∨ G.2.2 b10 ≤ s2.2.1.toNatClampNeg)) <|
  ltt (uI y8.2.2 b10 s2.2.1.toNatClampNeg y8.2.1) fun M11 =>
  ltt (s2.2.1 + (1 : Int32)) fun x12 =>
  some (.inl (y8.1, x12, M11)))) : Option ((Int32 × Int32 × DD) ⊕ (Int32 × Int32 × DD)))) 1000000 ((0 : Int32), (0 : Int32), M)) fun (y1 : Int32 × Int32 × DD) =>
  some (y1.2.2, y1.1)
set_option maxHeartbeats 4000000 in
set_option maxRecDepth 100000 in
theorem kX0_drawSubs (l : Launch) (D : va_G) (ct : CT) (ad : Nat → Nat) (Z : Nat → Nat) (G : GG) (M : DD) (sz : Nat) (a : Nat) (p0 : Int32) (p1 : Int32) (y : DD × Int32) (hc : a < G.1) (hk : G.2.1 a = 0) (hF : FX0_drawSubs G M a p0 p1 = some y) : Met l yX0_drawSubs wsX0_drawSubs ({ frames := 4, cells := 0, slots := 0, locals := 109 }) (va_Pc [.ref (ad a), .int p0, .int p1] (kB D ct ad Z G M sz)) (va_Qi (fun (q : Int32) (_ : Unit) => q = y.2) (fun _ t => kE D ct ad G (wA ad G sz) y.1 t) (wA ad G sz)) 0 0 (wA ad G sz) := by
  refine Met.ofW (cc := cX0_drawSubs) (maxL := 6) (ret := (some .int)) (by decide) rfl ?_
  intro p e s m args below meth c s₁ B hml hv
  obtain ⟨rfl, hsz, hP, hK, hD0, hZ, hN⟩ := hv
  have hx := B.exec
  have hb := B.bytes
  have hr := B.returns
  have hts := atoms_spec (ws := wsX0_drawSubs) B.pre
  have hown : s.vm.findClass RX0 = some m.cls := findClass_of_methodNamed B.named
  have hlocks := B.notSynchronized
  subst hsz
  have hD := wD_self (sz := s.heap.size) hD0
  have hA9 : ∀ q, s.heap.size ≤ q → wA ad G s.heap.size q := fun q h => Or.inr h
  generalize hAe : wA ad G s.heap.size = A at hD hA9 hZ ⊢
  have hS : va_S A s.heap s.heap [] := va_S.rf
  have hl := lv_entry ([.ref (ad a), .int p0, .int p1]) (n := 6) (Nat.le_of_ble_eq_true rfl)
  rw [lg_entry_eq]
  generalize (lg_sl ([.ref (ad a), .int p0, .int p1]) ++ List.replicate (6 - (lg_sl ([.ref (ad a), .int p0, .int p1])).length) Slot.unset).toArray = ls at hl ⊢
  have hl : lv_has ls 6 [(0, .ref (ad a)), (1, .int p0), (2, .int p1)] := hl
  unfold FX0_drawSubs at hF
  refine lv_iconst (v := (0 : Int32)) hx hb dX0_drawSubs_0 (by decide) ?_
  refine lv_istore_n (lv' := [(3, .int (0 : Int32)), (0, .ref (ad a)), (1, .int p0), (2, .int p1)]) hx hb dX0_drawSubs_1 rfl hl (by decide) rfl (fun ls hl => ?_)
  refine lv_iconst (v := (0 : Int32)) hx hb dX0_drawSubs_2 (by decide) ?_
  refine lv_istore (lv' := [(4, .int (0 : Int32)), (3, .int (0 : Int32)), (0, .ref (ad a)), (1, .int p0), (2, .int p1)]) hx hb dX0_drawSubs_3 hl (by decide) rfl (fun ls hl => ?_)
  obtain ⟨y1, hy1, hF⟩ := bnd_some hF
  have K1 : ∀ (H : Heap) (locs : List Loc) (ls : Array Slot), va_P D classes (wld ct ad G y1.2.2) H → va_D A (wld ct ad G y1.2.2) → va_S A s.heap H locs → lv_has ls 6 [(4, .int y1.2.1), (3, .int y1.1), (0, .ref (ad a)), (1, .int p0), (2, .int p1)] → W p l e (headSpec wsX0_drawSubs ({ frames := 4, cells := 0, slots := 0, locals := 109 })).room s m ([.ref (ad a), .int p0, .int p1] : List Value).toArray below meth c H locs 0 0 (MQ below (va_Qi (fun (q : Int32) (_ : Unit) => q = y.2) (fun _ t => kE D ct ad G A y.1 t) A) ([.ref (ad a), .int p0, .int p1] : List Value).toArray s 0 0 A) (F0 m 93 ls []) := by
    intro H locs ls hP hD hS hl
    refine lv_iload_n hx hb dX0_drawSubs_93 rfl (lv_at hl 1 rfl) ?_
    obtain rfl := Option.some.inj hF
    exact W.iret (v := y1.1) hx hb hr (fun t ht hW => ⟨⟨_, (), rfl, rfl, ⟨by rw [ht]; exact hP, va_K.moved hW.alike hK, hD⟩⟩, hS.F ht⟩) hS.2.2 dX0_drawSubs_94
  clear hF
  refine itr_rule (fun (s2 : Int32 × Int32 × DD) => ∀ (H : Heap) (locs : List Loc) (ls : Array Slot), va_P D classes (wld ct ad G s2.2.2) H → va_D A (wld ct ad G s2.2.2) → va_S A s.heap H locs → lv_has ls 6 [(4, .int s2.2.1), (3, .int s2.1), (0, .ref (ad a)), (1, .int p0), (2, .int p1)] → W p l e (headSpec wsX0_drawSubs ({ frames := 4, cells := 0, slots := 0, locals := 109 })).room s m ([.ref (ad a), .int p0, .int p1] : List Value).toArray below meth c H locs 0 0 (MQ below (va_Qi (fun (q : Int32) (_ : Unit) => q = y.2) (fun _ t => kE D ct ad G A y.1 t) A) ([.ref (ad a), .int p0, .int p1] : List Value).toArray s 0 0 A) (F0 m 5 ls [])) ?_ _ _ hy1 _ _ _ hP hD hS (lv_sub hl [0, 1, 2, 3, 4] rfl)
  rintro s2 ⟨z4, hF, hwz4⟩ H locs ls hP hD hS hl
  try dsimp only at hF
  refine lv_iload hx hb dX0_drawSubs_5 (lv_at hl 0 rfl) ?_
  refine lv_iconst (v := (4 : Int32)) hx hb dX0_drawSubs_7 (by decide) ?_
  refine lv_icmp_ge (tgt := 93) hx hb dX0_drawSubs_8 (by decide) (fun c5 => ?_) (fun c5 => ?_)
  · rw [if_pos c5] at hF
    obtain rfl := Option.some.inj hF
    subst hwz4
    exact K1 _ _ _ hP hD hS (lv_sub hl [0, 1, 2, 3, 4] rfl)
  · rw [if_neg c5] at hF
    refine lv_aload_n hx hb dX0_drawSubs_11 rfl (lv_at hl 2 rfl) ?_
    refine lv_iload_n hx hb dX0_drawSubs_12 rfl (lv_at hl 4 rfl) ?_
    obtain ⟨y6, hy6, hF⟩ := bnd_some hF
    have J6 : ∀ (H : Heap) (locs : List Loc) (ls : Array Slot), va_P D classes (wld ct ad G s2.2.2) H → va_D A (wld ct ad G s2.2.2) → va_S A s.heap H locs → lv_has ls 6 [(4, .int s2.2.1), (3, .int s2.1), (0, .ref (ad a)), (1, .int p0), (2, .int p1)] → W p l e (headSpec wsX0_drawSubs ({ frames := 4, cells := 0, slots := 0, locals := 109 })).room s m ([.ref (ad a), .int p0, .int p1] : List Value).toArray below meth c H locs 0 0 (MQ below (va_Qi (fun (q : Int32) (_ : Unit) => q = y.2) (fun _ t => kE D ct ad G A y.1 t) A) ([.ref (ad a), .int p0, .int p1] : List Value).toArray s 0 0 A) (F0 m 22 ls [.int y6, .ref (ad a)]) := by
      intro H locs ls hP hD hS hl
      obtain ⟨y7, hy7, hF⟩ := bnd_some hF
      have hf9 := wA_in hD hA9 hS
      refine va_calli (va_runV (As := [.int y6]) (rest := []) ⟨hx, hb, hml, hown, hts⟩ (kX0_draw l D ct ad Z G s2.2.2 H.size a y6 y7 hc hk hy7) (cwV 1 hts gX0_drawSubs_X0_draw rfl rfl rfl (by decide +kernel) ⟨Nat.le_of_ble_eq_true rfl, Nat.le_of_ble_eq_true rfl⟩) ⟨fun a U g mk q => by obtain ⟨q0, q1, qP, qK, qD, qZ, qN⟩ := q; exact ⟨q0, q1, qP, va_K.moved (u := U) (U := U.calling g mk a) (Vm.Alike.refl U.vm) qK, qD, sF.moved (u := U) (U := U.calling g mk a) (Vm.Alike.refl U.vm) qZ, nF.same rfl qN⟩, va_recv hK hP (ci := 0) (q0 := a) rfl (wld_o ct ad G s2.2.2 hc hk (by decide)), fun U hU hW => ⟨rfl, by rw [hU], by rw [hU]; exact hP, va_K.moved hW.alike hK, hD.weaken (fun _ _ _ _ => trivial), by rw [hU]; exact ((hZ.kept hS.2.1).narrow hf9).moved hW.alike, hN.warm hW⟩⟩ rfl rfl hl.1 rfl (lv_room (Nat.le_of_ble_eq_true rfl)) dX0_drawSubs_22 ⟨(Nat.zero_le _), (Nat.zero_le _)⟩) hS (fun q _ h => hf9 q h) hf9 (fun r u t H locs ht hvm hw hB hz1 hk1 hS => ?_)
      obtain ⟨hP, hK9, hD9⟩ := hB
      rw [ht] at hP
      try dsimp only at hw
      subst hw
      have hD := hD9.weaken (fun _ q _ h => hf9 q.1 h)
      refine lv_istore (lv' := [(5, .int y7.2), (4, .int s2.2.1), (3, .int s2.1), (0, .ref (ad a)), (1, .int p0), (2, .int p1)]) hx hb dX0_drawSubs_25 hl (by decide) rfl (fun ls hl => ?_)
      refine lv_iload_n hx hb dX0_drawSubs_27 rfl (lv_at hl 5 rfl) ?_
      refine lv_iconst (v := (1 : Int32)) hx hb dX0_drawSubs_28 (by decide) ?_
      obtain ⟨y8, hy8, hF⟩ := bnd_some hF
      have J8 : ∀ (H : Heap) (locs : List Loc) (ls : Array Slot), va_P D classes (wld ct ad G y8.2.2) H → va_D A (wld ct ad G y8.2.2) → va_S A s.heap H locs → lv_has ls 6 [(5, .int y8.2.1), (4, .int s2.2.1), (3, .int y8.1), (0, .ref (ad a)), (1, .int p0), (2, .int p1)] → W p l e (headSpec wsX0_drawSubs ({ frames := 4, cells := 0, slots := 0, locals := 109 })).room s m ([.ref (ad a), .int p0, .int p1] : List Value).toArray below meth c H locs 0 0 (MQ below (va_Qi (fun (q : Int32) (_ : Unit) => q = y.2) (fun _ t => kE D ct ad G A y.1 t) A) ([.ref (ad a), .int p0, .int p1] : List Value).toArray s 0 0 A) (F0 m 75 ls []) := by
        intro H locs ls hP hD hS hl
        refine lv_aload_n hx hb dX0_drawSubs_75 rfl (lv_at hl 3 rfl) ?_
        refine va_get (D := D) (ci := 0) (v := va_re ad (y8.2.2.2 a 3)) (C := RX0) (T := TX0) (N := 21) hx hb hts (by decide +kernel) hown hK hP a (wld_o ct ad G y8.2.2 hc hk (by decide)) rfl 3 (by decide) (hts (.fieldLink RX0 36 "VideoSuite$Coder" "work" "LVideoSuite$Work;") (by decide +kernel)) (fun _ h9 => h9) rfl dX0_drawSubs_76 ?_
        obtain ⟨b9, ho9, hc9, hk9, hF⟩ := dr_some hF
        refine W_st (st' := [.ref (ad b9)]) (by rw [va_some ho9]) ?_
        refine va_get (D := D) (ci := 9) (v := va_re ad (y8.2.2.2 b9 12)) (C := RX9) (T := TX9) (N := 20) hx hb hts (by decide +kernel) hown hK hP b9 (wld_o ct ad G y8.2.2 hc9 hk9 (by decide)) rfl 12 (by decide) (hts (.fieldLink RX0 400 "VideoSuite$Work" "sub" "[I") (by decide +kernel)) (fun _ h9 => h9) rfl dX0_drawSubs_79 ?_
        refine lv_iload hx hb dX0_drawSubs_82 (lv_at hl 1 rfl) ?_
        refine lv_iload hx hb dX0_drawSubs_84 (lv_at hl 0 rfl) ?_
        obtain ⟨b10, ho10, hc10, hk10, hF⟩ := dr_some hF
        refine W_st (st' := [.int y8.2.1, .int s2.2.1, .ref (ad b10)]) (by rw [va_some ho10]) ?_
        obtain ⟨hvc, hF⟩ := chk_some hF
        refine va_iast hx hb hK hP hD hS b10 1 (wld_i ct ad G y8.2.2 hc10 hk10) rfl hvc dX0_drawSubs_86 (fun H locs hP hD hS => ?_)
        obtain ⟨M11, eM11, hF⟩ := ltt_some hF
        rw [set_i ct ad G y8.2.2 hc10 hk10, ← eM11] at hP hD
        obtain ⟨x12, ex12, hF⟩ := ltt_some hF
        refine lv_iinc (v := x12) (lv' := [(4, .int x12), (5, .int y8.2.1), (3, .int y8.1), (0, .ref (ad a)), (1, .int p0), (2, .int p1)]) hx hb dX0_drawSubs_87 hl (k := 1) rfl (by rw [ex12]; rfl) (by decide) rfl (fun ls hl => ?_)
        refine lv_goto (tgt := 5) hx hb dX0_drawSubs_90 (by decide) ?_
        obtain rfl := Option.some.inj hF
        exact hwz4 _ _ _ hP hD hS (lv_sub hl [0, 2, 3, 4, 5] rfl)
      clear hF
      have hF := hy8
      clear hy8
      refine lv_icmp_ne (tgt := 75) hx hb dX0_drawSubs_29 (by decide) (fun c13 => ?_) (fun c13 => ?_)
      · rw [if_neg c13] at hF
        obtain rfl := Option.some.inj hF
        exact J8 _ _ _ hP hD hS (lv_sub hl [0, 1, 2, 3, 4, 5] rfl)
      · rw [if_pos c13] at hF
        refine lv_iload hx hb dX0_drawSubs_32 (lv_at hl 0 rfl) ?_
        obtain ⟨y14, hy14, hF⟩ := bnd_some hF
        have J14 : ∀ (H : Heap) (locs : List Loc) (ls : Array Slot), va_P D classes (wld ct ad G y14.2.2) H → va_D A (wld ct ad G y14.2.2) → va_S A s.heap H locs → lv_has ls 6 [(5, .int y14.2.1), (4, .int s2.2.1), (3, .int y14.1), (0, .ref (ad a)), (1, .int p0), (2, .int p1)] → W p l e (headSpec wsX0_drawSubs ({ frames := 4, cells := 0, slots := 0, locals := 109 })).room s m ([.ref (ad a), .int p0, .int p1] : List Value).toArray below meth c H locs 0 0 (MQ below (va_Qi (fun (q : Int32) (_ : Unit) => q = y.2) (fun _ t => kE D ct ad G A y.1 t) A) ([.ref (ad a), .int p0, .int p1] : List Value).toArray s 0 0 A) (F0 m 75 ls []) := by
          intro H locs ls hP hD hS hl
          obtain rfl := Option.some.inj hF
          exact J8 _ _ _ hP hD hS (lv_sub hl [0, 1, 2, 3, 4, 5] rfl)
        clear hF
        have hF := hy14
        clear hy14
        refine lv_if_ne (tgt := 75) hx hb dX0_drawSubs_34 (by decide) (fun c15 => ?_) (fun c15 => ?_)
        · rw [if_neg c15] at hF
          obtain rfl := Option.some.inj hF
          exact J14 _ _ _ hP hD hS (lv_sub hl [0, 1, 2, 3, 4, 5] rfl)
        · rw [if_pos c15] at hF
          refine lv_aload_n hx hb dX0_drawSubs_37 rfl (lv_at hl 3 rfl) ?_
          refine va_get (D := D) (ci := 0) (v := va_re ad (y7.1.2 a 3)) (C := RX0) (T := TX0) (N := 21) hx hb hts (by decide +kernel) hown hK hP a (wld_o ct ad G y7.1 hc hk (by decide)) rfl 3 (by decide) (hts (.fieldLink RX0 36 "VideoSuite$Coder" "work" "LVideoSuite$Work;") (by decide +kernel)) (fun _ h9 => h9) rfl dX0_drawSubs_38 ?_
          refine lv_iload_n hx hb dX0_drawSubs_41 rfl (lv_at hl 4 rfl) ?_
          refine lv_iconst (v := (1 : Int32)) hx hb dX0_drawSubs_42 (by decide) ?_
          refine lv_iload hx hb dX0_drawSubs_43 (lv_at hl 1 rfl) ?_
          refine lv_ishl hx hb dX0_drawSubs_45 ?_
          obtain ⟨x16, ex16, hF⟩ := ltt_some hF
          refine lv_topi (fun zx16 ezx16 => ?_)
          obtain rfl : x16 = zx16 := ex16.trans ezx16.symm
          obtain ⟨b17, ho17, hc17, hk17, hF⟩ := dr_some hF
          refine W_st (st' := [.int x16, .int p0, .ref (ad b17)]) (by rw [va_some ho17]) ?_
          obtain ⟨y18, hy18, hF⟩ := bnd_some hF
          have hf9 := wA_in hD hA9 hS
          refine va_calli (va_runV (As := [.int p0, .int x16]) (rest := []) ⟨hx, hb, hml, hown, hts⟩ (kX9_direct l D ct ad Z G y7.1 H.size b17 p0 x16 y18 hc17 hk17 hy18) (cwV 2 hts gX0_drawSubs_X9_direct rfl rfl rfl (by decide +kernel) ⟨Nat.le_of_ble_eq_true rfl, Nat.le_of_ble_eq_true rfl⟩) ⟨fun a U g mk q => by obtain ⟨q0, q1, qP, qK, qD, qZ, qN⟩ := q; exact ⟨q0, q1, qP, va_K.moved (u := U) (U := U.calling g mk a) (Vm.Alike.refl U.vm) qK, qD, sF.moved (u := U) (U := U.calling g mk a) (Vm.Alike.refl U.vm) qZ, nF.same rfl qN⟩, va_recv hK hP (ci := 9) (q0 := b17) rfl (wld_o ct ad G y7.1 hc17 hk17 (by decide)), fun U hU hW => ⟨rfl, by rw [hU], by rw [hU]; exact hP, va_K.moved hW.alike hK, hD.weaken (fun _ _ _ _ => trivial), by rw [hU]; exact ((hZ.kept hS.2.1).narrow hf9).moved hW.alike, hN.warm hW⟩⟩ rfl rfl hl.1 rfl (lv_room (Nat.le_of_ble_eq_true rfl)) dX0_drawSubs_46 ⟨(Nat.zero_le _), (Nat.zero_le _)⟩) hS (fun q _ h => hf9 q h) hf9 (fun r u t H locs ht hvm hw hB hz1 hk1 hS => ?_)
          obtain ⟨hP, hK9, hD9⟩ := hB
          rw [ht] at hP
          try dsimp only at hw
          subst hw
          have hD := hD9.weaken (fun _ q _ h => hf9 q.1 h)
          obtain ⟨y19, hy19, hF⟩ := bnd_some hF
          have J19 : ∀ (H : Heap) (locs : List Loc) (ls : Array Slot), va_P D classes (wld ct ad G y18.1) H → va_D A (wld ct ad G y18.1) → va_S A s.heap H locs → lv_has ls 6 [(5, .int y7.2), (4, .int s2.2.1), (3, .int s2.1), (0, .ref (ad a)), (1, .int p0), (2, .int p1)] → W p l e (headSpec wsX0_drawSubs ({ frames := 4, cells := 0, slots := 0, locals := 109 })).room s m ([.ref (ad a), .int p0, .int p1] : List Value).toArray below meth c H locs 0 0 (MQ below (va_Qi (fun (q : Int32) (_ : Unit) => q = y.2) (fun _ t => kE D ct ad G A y.1 t) A) ([.ref (ad a), .int p0, .int p1] : List Value).toArray s 0 0 A) (F0 m 57 ls [.int y19]) := by
            intro H locs ls hP hD hS hl
            refine lv_istore (lv' := [(5, .int y19), (4, .int s2.2.1), (3, .int s2.1), (0, .ref (ad a)), (1, .int p0), (2, .int p1)]) hx hb dX0_drawSubs_57 hl (by decide) rfl (fun ls hl => ?_)
            refine lv_iload_n hx hb dX0_drawSubs_59 rfl (lv_at hl 2 rfl) ?_
            refine lv_iload hx hb dX0_drawSubs_60 (lv_at hl 0 rfl) ?_
            obtain ⟨y20, hy20, hF⟩ := bnd_some hF
            have J20 : ∀ (H : Heap) (locs : List Loc) (ls : Array Slot), va_P D classes (wld ct ad G y18.1) H → va_D A (wld ct ad G y18.1) → va_S A s.heap H locs → lv_has ls 6 [(5, .int y19), (4, .int s2.2.1), (3, .int s2.1), (0, .ref (ad a)), (1, .int p0), (2, .int p1)] → W p l e (headSpec wsX0_drawSubs ({ frames := 4, cells := 0, slots := 0, locals := 109 })).room s m ([.ref (ad a), .int p0, .int p1] : List Value).toArray below meth c H locs 0 0 (MQ below (va_Qi (fun (q : Int32) (_ : Unit) => q = y.2) (fun _ t => kE D ct ad G A y.1 t) A) ([.ref (ad a), .int p0, .int p1] : List Value).toArray s 0 0 A) (F0 m 73 ls [.int y20, .int s2.1]) := by
              intro H locs ls hP hD hS hl
              refine lv_ior hx hb dX0_drawSubs_73 ?_
              obtain ⟨x21, ex21, hF⟩ := ltt_some hF
              refine lv_topi (fun zx21 ezx21 => ?_)
              obtain rfl : x21 = zx21 := ex21.trans ezx21.symm
              refine lv_istore_n (lv' := [(3, .int x21), (5, .int y19), (4, .int s2.2.1), (0, .ref (ad a)), (1, .int p0), (2, .int p1)]) hx hb dX0_drawSubs_74 rfl hl (by decide) rfl (fun ls hl => ?_)
              obtain rfl := Option.some.inj hF
              exact J14 _ _ _ hP hD hS (lv_sub hl [1, 2, 0, 3, 4, 5] rfl)
            clear hF
            have hF := hy20
            clear hy20
            refine lv_if_ne (tgt := 72) hx hb dX0_drawSubs_62 (by decide) (fun c22 => ?_) (fun c22 => ?_)
            · rw [if_neg c22] at hF
              refine lv_iconst (v := (0 : Int32)) hx hb dX0_drawSubs_72 (by decide) ?_
              obtain rfl := Option.some.inj hF
              exact J20 _ _ _ hP hD hS (lv_sub hl [0, 1, 2, 3, 4, 5] rfl)
            · rw [if_pos c22] at hF
              refine lv_iconst (v := (1 : Int32)) hx hb dX0_drawSubs_65 (by decide) ?_
              refine lv_iload hx hb dX0_drawSubs_66 (lv_at hl 1 rfl) ?_
              refine lv_ishl hx hb dX0_drawSubs_68 ?_
              obtain ⟨x23, ex23, hF⟩ := ltt_some hF
              refine lv_topi (fun zx23 ezx23 => ?_)
              obtain rfl : x23 = zx23 := ex23.trans ezx23.symm
              refine lv_goto (tgt := 73) hx hb dX0_drawSubs_69 (by decide) ?_
              obtain rfl := Option.some.inj hF
              exact J20 _ _ _ hP hD hS (lv_sub hl [0, 1, 2, 3, 4, 5] rfl)
          clear hF
          have hF := hy19
          clear hy19
          refine lv_if_eq (tgt := 56) hx hb dX0_drawSubs_49 (by decide) (fun c24 => ?_) (fun c24 => ?_)
          · rw [if_pos c24] at hF
            refine lv_iconst (v := (1 : Int32)) hx hb dX0_drawSubs_56 (by decide) ?_
            obtain rfl := Option.some.inj hF
            exact J19 _ _ _ hP hD hS (lv_sub hl [0, 1, 2, 3, 4, 5] rfl)
          · rw [if_neg c24] at hF
            refine lv_iconst (v := (0 : Int32)) hx hb dX0_drawSubs_52 (by decide) ?_
            refine lv_goto (tgt := 57) hx hb dX0_drawSubs_53 (by decide) ?_
            obtain rfl := Option.some.inj hF
            exact J19 _ _ _ hP hD hS (lv_sub hl [0, 1, 2, 3, 4, 5] rfl)
    clear hF
    have hF := hy6
    clear hy6
    refine lv_if_ne (tgt := 20) hx hb dX0_drawSubs_13 (by decide) (fun c25 => ?_) (fun c25 => ?_)
    · rw [if_neg c25] at hF
      refine lv_bipush (v := (13 : Int32)) hx hb dX0_drawSubs_20 (by decide) ?_
      obtain rfl := Option.some.inj hF
      exact J6 _ _ _ hP hD hS (lv_sub hl [0, 1, 2, 3, 4] rfl)
    · rw [if_pos c25] at hF
      refine lv_iconst (v := (4 : Int32)) hx hb dX0_drawSubs_16 (by decide) ?_
      refine lv_goto (tgt := 22) hx hb dX0_drawSubs_17 (by decide) ?_
      obtain rfl := Option.some.inj hF
      exact J6 _ _ _ hP hD hS (lv_sub hl [0, 1, 2, 3, 4] rfl)
theorem ggX0_endSlice_X0_isSliceEdge : GoodIn wsX0_endSlice wsX0_isSliceEdge := goodIn_r _ [9, 10, 81, 82, 83, 84, 85, 86, 87, 88, 89, 90, 91, 92, 93, 94, 95, 96, 97, 98, 99, 100, 101] (by decide +kernel) (by decide +kernel)
set_option maxRecDepth 20000 in
theorem gX0_endSlice_X0_isSliceEdge : GoodIn wsX0_endSlice (wsV RX0 206 RX0 yX0_isSliceEdge wsX0_isSliceEdge) := goodIn_app (goodIn_of _ (by decide +kernel)) ggX0_endSlice_X0_isSliceEdge
set_option maxRecDepth 20000 in
theorem ggX0_endSlice_X10_endUnit : GoodIn wsX0_endSlice wsX10_endUnit := goodIn_r _ [69, 31, 32, 70, 24, 25, 26, 14, 27, 28, 23, 29, 30, 33, 34, 35, 36, 37, 38, 39, 40, 41, 42, 43, 44, 45, 46, 47, 48, 49, 50, 51, 71, 72, 73, 74, 75, 76, 77, 78, 79, 80, 122, 123, 124, 125, 126, 127, 128, 129, 130, 131, 132, 133, 134, 135, 136, 137, 138, 139, 140, 141] (by decide +kernel) (by decide +kernel)
set_option maxRecDepth 20000 in
theorem gX0_endSlice_X10_endUnit : GoodIn wsX0_endSlice (wsV RX0 172 RX10 yX10_endUnit wsX10_endUnit) := goodIn_app (goodIn_of _ (by decide +kernel)) ggX0_endSlice_X10_endUnit
theorem ggX0_endSlice_X10_ue : GoodIn wsX0_endSlice wsX10_ue := goodIn_r _ [55, 56, 57, 14, 58, 59, 60, 61, 62, 18, 63, 64, 16, 17, 65, 24, 25, 26, 27, 28, 23, 29, 30, 31, 32, 33, 34, 35, 36, 37, 38, 39, 40, 41, 42, 43, 44, 45, 46, 47, 48, 49, 50, 51, 19, 20, 21, 22, 122, 123, 124, 125, 126, 127, 128, 129, 130, 131, 132, 133, 134, 135, 136, 137, 138, 139, 140, 141] (by decide +kernel) (by decide +kernel)
set_option maxRecDepth 20000 in
theorem gX0_endSlice_X10_ue : GoodIn wsX0_endSlice (wsV RX0 162 RX10 yX10_ue wsX10_ue) := goodIn_app (goodIn_of _ (by decide +kernel)) ggX0_endSlice_X10_ue
set_option maxRecDepth 20000 in
theorem ggX0_endSlice_X10_last : GoodIn wsX0_endSlice wsX10_last := goodIn_r _ [15, 16, 17, 18, 19, 20, 21, 14, 22, 23, 24, 25, 26, 27, 28, 29, 30, 31, 32, 33, 34, 35, 36, 37, 38, 39, 40, 41, 42, 43, 44, 45, 46, 47, 48, 49, 50, 51, 122, 123, 124, 125, 126, 127, 128, 129, 130, 131, 132, 133, 134, 135, 136, 137, 138, 139, 140, 141] (by decide +kernel) (by decide +kernel)
set_option maxRecDepth 20000 in
theorem gX0_endSlice_X10_last : GoodIn wsX0_endSlice (wsV RX0 337 RX10 yX10_last wsX10_last) := goodIn_app (goodIn_of _ (by decide +kernel)) ggX0_endSlice_X10_last
set_option maxRecDepth 20000 in
theorem dX0_endSlice_0 : decode cX0_endSlice 0 = .ok (.aload_n 0, 1) := by decide +kernel
theorem dX0_endSlice_1 : decode cX0_endSlice 1 = .ok (.iload_n 1, 1) := by decide +kernel
theorem dX0_endSlice_2 : decode cX0_endSlice 2 = .ok (.iconst 1, 1) := by decide +kernel
theorem dX0_endSlice_3 : decode cX0_endSlice 3 = .ok (.iadd, 1) := by decide +kernel
theorem dX0_endSlice_4 : decode cX0_endSlice 4 = .ok (.invokevirtual 206, 3) := by decide +kernel
theorem dX0_endSlice_7 : decode cX0_endSlice 7 = .ok (.istore_n 2, 1) := by decide +kernel
theorem dX0_endSlice_8 : decode cX0_endSlice 8 = .ok (.aload_n 0, 1) := by decide +kernel
theorem dX0_endSlice_9 : decode cX0_endSlice 9 = .ok (.getfield 36, 3) := by decide +kernel
theorem dX0_endSlice_12 : decode cX0_endSlice 12 = .ok (.getfield 85, 3) := by decide +kernel
theorem dX0_endSlice_15 : decode cX0_endSlice 15 = .ok (.iconst 1, 1) := by decide +kernel
theorem dX0_endSlice_16 : decode cX0_endSlice 16 = .ok (.iaload, 1) := by decide +kernel
theorem dX0_endSlice_17 : decode cX0_endSlice 17 = .ok (.iconst 1, 1) := by decide +kernel
theorem dX0_endSlice_18 : decode cX0_endSlice 18 = .ok (.if_icmp .ne 7, 3) := by decide +kernel
theorem dX0_endSlice_21 : decode cX0_endSlice 21 = .ok (.iconst 1, 1) := by decide +kernel
theorem dX0_endSlice_22 : decode cX0_endSlice 22 = .ok (.goto 4, 3) := by decide +kernel
theorem dX0_endSlice_25 : decode cX0_endSlice 25 = .ok (.iconst 0, 1) := by decide +kernel
theorem dX0_endSlice_26 : decode cX0_endSlice 26 = .ok (.istore_n 3, 1) := by decide +kernel
theorem dX0_endSlice_27 : decode cX0_endSlice 27 = .ok (.iload_n 3, 1) := by decide +kernel
theorem dX0_endSlice_28 : decode cX0_endSlice 28 = .ok (.ifCond .eq 11, 3) := by decide +kernel
theorem dX0_endSlice_31 : decode cX0_endSlice 31 = .ok (.aload_n 0, 1) := by decide +kernel
theorem dX0_endSlice_32 : decode cX0_endSlice 32 = .ok (.getfield 29, 3) := by decide +kernel
theorem dX0_endSlice_35 : decode cX0_endSlice 35 = .ok (.iload_n 2, 1) := by decide +kernel
theorem dX0_endSlice_36 : decode cX0_endSlice 36 = .ok (.invokevirtual 337, 3) := by decide +kernel
theorem dX0_endSlice_39 : decode cX0_endSlice 39 = .ok (.iload_n 2, 1) := by decide +kernel
theorem dX0_endSlice_40 : decode cX0_endSlice 40 = .ok (.ifCond .ne 4, 3) := by decide +kernel
theorem dX0_endSlice_43 : decode cX0_endSlice 43 = .ok (.return_, 1) := by decide +kernel
theorem dX0_endSlice_44 : decode cX0_endSlice 44 = .ok (.iload_n 3, 1) := by decide +kernel
theorem dX0_endSlice_45 : decode cX0_endSlice 45 = .ok (.ifCond .ne 28, 3) := by decide +kernel
theorem dX0_endSlice_48 : decode cX0_endSlice 48 = .ok (.aload_n 0, 1) := by decide +kernel
theorem dX0_endSlice_49 : decode cX0_endSlice 49 = .ok (.getfield 29, 3) := by decide +kernel
theorem dX0_endSlice_52 : decode cX0_endSlice 52 = .ok (.getfield 309, 3) := by decide +kernel
theorem dX0_endSlice_55 : decode cX0_endSlice 55 = .ok (.ifCond .le 18, 3) := by decide +kernel
theorem dX0_endSlice_58 : decode cX0_endSlice 58 = .ok (.aload_n 0, 1) := by decide +kernel
theorem dX0_endSlice_59 : decode cX0_endSlice 59 = .ok (.getfield 29, 3) := by decide +kernel
theorem dX0_endSlice_62 : decode cX0_endSlice 62 = .ok (.iconst 0, 1) := by decide +kernel
theorem dX0_endSlice_63 : decode cX0_endSlice 63 = .ok (.aload_n 0, 1) := by decide +kernel
theorem dX0_endSlice_64 : decode cX0_endSlice 64 = .ok (.getfield 29, 3) := by decide +kernel
theorem dX0_endSlice_67 : decode cX0_endSlice 67 = .ok (.getfield 309, 3) := by decide +kernel
theorem dX0_endSlice_70 : decode cX0_endSlice 70 = .ok (.invokevirtual 162, 3) := by decide +kernel
theorem dX0_endSlice_73 : decode cX0_endSlice 73 = .ok (.aload_n 0, 1) := by decide +kernel
theorem dX0_endSlice_74 : decode cX0_endSlice 74 = .ok (.getfield 29, 3) := by decide +kernel
theorem dX0_endSlice_77 : decode cX0_endSlice 77 = .ok (.iload_n 3, 1) := by decide +kernel
theorem dX0_endSlice_78 : decode cX0_endSlice 78 = .ok (.invokevirtual 172, 3) := by decide +kernel
theorem dX0_endSlice_81 : decode cX0_endSlice 81 = .ok (.return_, 1) := by decide +kernel
noncomputable def FX0_endSlice (G : GG) (M : DD) (a : Nat) (p0 : Int32) : Option (NN × DD) :=
  ltt ((p0 + ((1 : Int32)))) fun x1 =>
  bnd (FX0_isSliceEdge (xt G []) M a x1) fun y2 =>
  dr (xt G []) 9 ((y2.1.2 a 3)) fun b3 =>
  dr (xt G []) 13 ((y2.1.2 b3 2)) fun b4 =>
  chk (¬ (((1 : Int32)) < 0 ∨ (xt G []).2.2 b4 ≤ ((1 : Int32)).toNatClampNeg)) <|
  ltt (y2.1.1 b4 ((1 : Int32)).toNatClampNeg) fun x5 =>
  bnd (if x5 = ((1 : Int32)) then (some ((1 : Int32))) else
  (some ((0 : Int32)))) fun (y6 : Int32) =>
  bnd (if y6 = ((0 : Int32)) then (some ([], y2.1)) else
  (dr (xt G []) 10 ((y2.1.2 a 2)) fun b40 =>
  bnd (FX10_last (xt G []) y2.1 b40 y2.2) fun y41 =>
  app y41.1 <|
  ltt ([] ++ y41.1) fun L43 =>
  some ([], y41.2))) fun (y7 : NN × DD) =>
  app y7.1 <|
  ltt ([] ++ y7.1) fun L9 =>
  if y2.2 = ((0 : Int32)) then (some ([], y7.2)) else
  (bnd (if y6 = ((0 : Int32)) then (dr (xt G L9) 10 ((y7.2.2 a 2)) fun b24 =>
  ltt (y7.2.1 b24 3) fun x25 =>
  bnd (if x25 ≤ ((0 : Int32)) then (some ([], y7.2)) else
  (ltt (y7.2.1 b24 3) fun x32 =>
  bnd (FX10_ue (xt G L9) y7.2 b24 ((0 : Int32)) x32) fun y33 =>
  app y33.1 <|
  ltt (L9 ++ y33.1) fun L35 =>
  some ([], y33.2))) fun (y26 : NN × DD) =>
  app y26.1 <|
  ltt (L9 ++ y26.1) fun L28 =>
  some ([], y26.2)) else
  (some ([], y7.2))) fun (y12 : NN × DD) =>
  app y12.1 <|
  ltt (L9 ++ y12.1) fun L14 =>
  dr (xt G L14) 10 ((y12.2.2 a 2)) fun b16 =>
  bnd (FX10_endUnit (xt G L14) y12.2 b16 y6) fun y17 =>
  app y17.1 <|
  ltt (L14 ++ y17.1) fun L19 =>
  some ([], y17.2))
set_option maxHeartbeats 4000000 in
set_option maxRecDepth 100000 in
theorem kX0_endSlice (l : Launch) (D : va_G) (ct : CT) (ad : Nat → Nat) (Z : Nat → Nat) (G : GG) (M : DD) (sz : Nat) (a : Nat) (p0 : Int32) (y : NN × DD) (hc : a < G.1) (hk : G.2.1 a = 0) (hF : FX0_endSlice G M a p0 = some y) : Met l yX0_endSlice wsX0_endSlice ({ frames := 6, cells := y.1.length, slots := wt y.1, locals := 197 }) (va_Pc [.ref (ad a), .int p0] (kB D ct ad Z G M sz)) (va_Qv (fun (u : Nat → Nat) => agr G.1 ad u) (fun u t => kE D ct u (xt G y.1) (wA ad G sz) y.2 t) (wA ad G sz)) y.1.length (wt y.1) (wA ad G sz) := by
  refine Met.ofW (cc := cX0_endSlice) (maxL := 4) (ret := none) (by decide) rfl ?_
  intro p e s m args below meth c s₁ B hml hv
  obtain ⟨rfl, hsz, hP, hK, hD0, hZ, hN⟩ := hv
  have hx := B.exec
  have hb := B.bytes
  have hr := B.returns
  have hts := atoms_spec (ws := wsX0_endSlice) B.pre
  have hown : s.vm.findClass RX0 = some m.cls := findClass_of_methodNamed B.named
  have hlocks := B.notSynchronized
  subst hsz
  have hD := wD_self (sz := s.heap.size) hD0
  have hA9 : ∀ q, s.heap.size ≤ q → wA ad G s.heap.size q := fun q h => Or.inr h
  generalize hAe : wA ad G s.heap.size = A at hD hA9 hZ ⊢
  have hS : va_S A s.heap s.heap [] := va_S.rf
  have hl := lv_entry ([.ref (ad a), .int p0]) (n := 4) (Nat.le_of_ble_eq_true rfl)
  rw [lg_entry_eq]
  generalize (lg_sl ([.ref (ad a), .int p0]) ++ List.replicate (4 - (lg_sl ([.ref (ad a), .int p0])).length) Slot.unset).toArray = ls at hl ⊢
  have hl : lv_has ls 4 [(0, .ref (ad a)), (1, .int p0)] := hl
  unfold FX0_endSlice at hF
  rw [← wld_0 ct ad G M] at hP hD
  have hk := xt_k0 hc hk
  have hc := xt_l0 hc
  have hag := agr_rf G.1 ad
  obtain ⟨w0, hw0⟩ : ∃ z, z = y := ⟨_, rfl⟩
  rw [← hw0] at hF
  have hT : y.1 = [] ++ w0.1 := by rw [hw0]; rfl
  have h2 : y.2 = w0.2 := by rw [hw0]
  have hbl : y.1.length ≤ y.1.length ∧ wt y.1 ≤ wt y.1 := ⟨Nat.le_refl _, Nat.le_refl _⟩
  refine lv_aload_n hx hb dX0_endSlice_0 rfl (lv_at hl 0 rfl) ?_
  refine lv_iload_n hx hb dX0_endSlice_1 rfl (lv_at hl 1 rfl) ?_
  refine lv_iconst (v := (1 : Int32)) hx hb dX0_endSlice_2 (by decide) ?_
  refine lv_iadd hx hb dX0_endSlice_3 ?_
  obtain ⟨x1, ex1, hF⟩ := ltt_some hF
  refine lv_topi (fun zx1 ezx1 => ?_)
  obtain rfl : x1 = zx1 := ex1.trans ezx1.symm
  obtain ⟨y2, hy2, hF⟩ := bnd_some hF
  have hf9 := wA_in hD hA9 hS
  refine va_calli (va_runV (As := [.int x1]) (rest := []) ⟨hx, hb, hml, hown, hts⟩ (kX0_isSliceEdge l D ct ad Z (xt G []) M s.heap.size a x1 y2 hc hk hy2) (cwV 1 hts gX0_endSlice_X0_isSliceEdge rfl rfl rfl (by decide +kernel) ⟨Nat.le_of_ble_eq_true rfl, Nat.le_of_ble_eq_true rfl⟩) ⟨fun a U g mk q => by obtain ⟨q0, q1, qP, qK, qD, qZ, qN⟩ := q; exact ⟨q0, q1, qP, va_K.moved (u := U) (U := U.calling g mk a) (Vm.Alike.refl U.vm) qK, qD, sF.moved (u := U) (U := U.calling g mk a) (Vm.Alike.refl U.vm) qZ, nF.same rfl qN⟩, va_recv hK hP (ci := 0) (q0 := a) rfl (wld_o ct ad (xt G []) M hc hk (by decide)), fun U hU hW => ⟨rfl, by rw [hU], by rw [hU]; exact hP, va_K.moved hW.alike hK, hD.weaken (fun _ _ _ _ => trivial), by rw [hU]; exact ((hZ.kept hS.2.1).narrow hf9).moved hW.alike, hN.warm hW⟩⟩ rfl rfl hl.1 rfl (lv_room (Nat.le_of_ble_eq_true rfl)) dX0_endSlice_4 (room_d hT hbl)) hS (fun q _ h => hf9 q h) hf9 (fun r u t H locs ht hvm hw hB hz1 hk1 hS => ?_)
  obtain ⟨hP, hK9, hD9⟩ := hB
  rw [ht] at hP
  try dsimp only at hw
  subst hw
  refine W_cs (k := ([] : NN).length) (n := wt []) rfl rfl ?_
  have hD := hD9.weaken (fun _ q _ h => hf9 q.1 h)
  refine lv_istore_n (lv' := [(2, .int y2.2), (0, .ref (ad a)), (1, .int p0)]) hx hb dX0_endSlice_7 rfl hl (by decide) rfl (fun ls hl => ?_)
  refine lv_aload_n hx hb dX0_endSlice_8 rfl (lv_at hl 1 rfl) ?_
  refine va_get (D := D) (ci := 0) (v := va_re ad (y2.1.2 a 3)) (C := RX0) (T := TX0) (N := 21) hx hb hts (by decide +kernel) hown hK hP a (wld_o ct ad (xt G []) y2.1 hc hk (by decide)) rfl 3 (by decide) (hts (.fieldLink RX0 36 "VideoSuite$Coder" "work" "LVideoSuite$Work;") (by decide +kernel)) (fun _ h9 => h9) rfl dX0_endSlice_9 ?_
  obtain ⟨b3, ho3, hc3, hk3, hF⟩ := dr_some hF
  refine W_st (st' := [.ref (ad b3)]) (by rw [va_some ho3]) ?_
  refine va_get (D := D) (ci := 9) (v := va_re ad (y2.1.2 b3 2)) (C := RX9) (T := TX9) (N := 20) hx hb hts (by decide +kernel) hown hK hP b3 (wld_o ct ad (xt G []) y2.1 hc3 hk3 (by decide)) rfl 2 (by decide) (hts (.fieldLink RX0 85 "VideoSuite$Work" "par" "[I") (by decide +kernel)) (fun _ h9 => h9) rfl dX0_endSlice_12 ?_
  refine lv_iconst (v := (1 : Int32)) hx hb dX0_endSlice_15 (by decide) ?_
  obtain ⟨b4, ho4, hc4, hk4, hF⟩ := dr_some hF
  refine W_st (st' := [.int (1 : Int32), .ref (ad b4)]) (by rw [va_some ho4]) ?_
  obtain ⟨hvc, hF⟩ := chk_some hF
  refine va_iald hx hb hK hP b4 1 (wld_i ct ad (xt G []) y2.1 hc4 hk4) rfl hvc dX0_endSlice_16 ?_
  obtain ⟨x5, ex5, hF⟩ := ltt_some hF
  refine lv_topi (fun zx5 ezx5 => ?_)
  obtain rfl : x5 = zx5 := ex5.trans ezx5.symm
  refine lv_iconst (v := (1 : Int32)) hx hb dX0_endSlice_17 (by decide) ?_
  obtain ⟨y6, hy6, hF⟩ := bnd_some hF
  have J6 : ∀ (H : Heap) (locs : List Loc) (ls : Array Slot), va_P D classes (wld ct ad (xt G []) y2.1) H → va_D A (wld ct ad (xt G []) y2.1) → va_S A s.heap H locs → lv_has ls 4 [(2, .int y2.2), (0, .ref (ad a)), (1, .int p0)] → W p l e (headSpec wsX0_endSlice ({ frames := 6, cells := y.1.length, slots := wt y.1, locals := 197 })).room s m ([.ref (ad a), .int p0] : List Value).toArray below meth c H locs ([] : NN).length (wt []) (MQ below (va_Qv (fun (u : Nat → Nat) => agr G.1 ad u) (fun u t => kE D ct u (xt G y.1) A y.2 t) A) ([.ref (ad a), .int p0] : List Value).toArray s y.1.length (wt y.1) A) (F0 m 26 ls [.int y6]) := by
    intro H locs ls hP hD hS hl
    refine lv_istore_n (lv' := [(3, .int y6), (2, .int y2.2), (0, .ref (ad a)), (1, .int p0)]) hx hb dX0_endSlice_26 rfl hl (by decide) rfl (fun ls hl => ?_)
    refine lv_iload_n hx hb dX0_endSlice_27 rfl (lv_at hl 0 rfl) ?_
    obtain ⟨y7, hy7, hF⟩ := bnd_some hF
    obtain ⟨w8, hF, ew8⟩ := app_some hF
    obtain ⟨L9, eL9, hF⟩ := ltt_some hF
    have hT9 : y.1 = ([] ++ y7.1) ++ w8.1 := by rw [hT, ew8]; simp only [List.append_assoc]
    have hbl9 : L9.length ≤ y.1.length ∧ wt L9 ≤ wt y.1 := by rw [eL9]; exact room_d hT9 hbl
    have J7 : ∀ (ad10 : Nat → Nat), agr G.1 ad ad10 → ∀ (H : Heap) (locs : List Loc) (ls : Array Slot), va_P D classes (wld ct ad10 (xt G L9) y7.2) H → va_D A (wld ct ad10 (xt G L9) y7.2) → va_S A s.heap H locs → lv_has ls 4 [(3, .int y6), (2, .int y2.2), (0, .ref (ad10 a))] → W p l e (headSpec wsX0_endSlice ({ frames := 6, cells := y.1.length, slots := wt y.1, locals := 197 })).room s m ([.ref (ad a), .int p0] : List Value).toArray below meth c H locs (L9 : NN).length (wt L9) (MQ below (va_Qv (fun (u : Nat → Nat) => agr G.1 ad u) (fun u t => kE D ct u (xt G y.1) A y.2 t) A) ([.ref (ad a), .int p0] : List Value).toArray s y.1.length (wt y.1) A) (F0 m 39 ls []) := by
      intro ad10 hag H locs ls hP hD hS hl
      have hT : y.1 = L9 ++ w8.1 := by rw [hT9, eL9]
      have h2 : y.2 = w8.2 := by rw [h2, ew8]
      have hk : (xt G L9).2.1 a = 0 := by rw [eL9]; exact xt_k _ hc hk
      have hc : a < (xt G L9).1 := by rw [eL9]; exact xt_l _ hc
      have hk3 : (xt G L9).2.1 b3 = 9 := by rw [eL9]; exact xt_k _ hc3 hk3
      have hc3 : b3 < (xt G L9).1 := by rw [eL9]; exact xt_l _ hc3
      have hk4 : (xt G L9).2.1 b4 = 13 := by rw [eL9]; exact xt_k _ hc4 hk4
      have hc4 : b4 < (xt G L9).1 := by rw [eL9]; exact xt_l _ hc4
      refine lv_iload_n hx hb dX0_endSlice_39 rfl (lv_at hl 1 rfl) ?_
      refine lv_if_ne (tgt := 44) hx hb dX0_endSlice_40 (by decide) (fun c11 => ?_) (fun c11 => ?_)
      · rw [if_neg c11] at hF
        refine lv_iload_n hx hb dX0_endSlice_44 rfl (lv_at hl 0 rfl) ?_
        obtain ⟨y12, hy12, hF⟩ := bnd_some hF
        obtain ⟨w13, hF, ew13⟩ := app_some hF
        obtain ⟨L14, eL14, hF⟩ := ltt_some hF
        have hT14 : y.1 = (L9 ++ y12.1) ++ w13.1 := by rw [hT, ew13]; simp only [List.append_assoc]
        have hbl14 : L14.length ≤ y.1.length ∧ wt L14 ≤ wt y.1 := by rw [eL14]; exact room_d hT14 hbl
        have J12 : ∀ (ad15 : Nat → Nat), agr G.1 ad ad15 → ∀ (H : Heap) (locs : List Loc) (ls : Array Slot), va_P D classes (wld ct ad15 (xt G L14) y12.2) H → va_D A (wld ct ad15 (xt G L14) y12.2) → va_S A s.heap H locs → lv_has ls 4 [(3, .int y6), (0, .ref (ad15 a))] → W p l e (headSpec wsX0_endSlice ({ frames := 6, cells := y.1.length, slots := wt y.1, locals := 197 })).room s m ([.ref (ad a), .int p0] : List Value).toArray below meth c H locs (L14 : NN).length (wt L14) (MQ below (va_Qv (fun (u : Nat → Nat) => agr G.1 ad u) (fun u t => kE D ct u (xt G y.1) A y.2 t) A) ([.ref (ad a), .int p0] : List Value).toArray s y.1.length (wt y.1) A) (F0 m 73 ls []) := by
          intro ad15 hag H locs ls hP hD hS hl
          have hT : y.1 = L14 ++ w13.1 := by rw [hT14, eL14]
          have h2 : y.2 = w13.2 := by rw [h2, ew13]
          have hk : (xt G L14).2.1 a = 0 := by rw [eL14]; exact xt_k _ hc hk
          have hc : a < (xt G L14).1 := by rw [eL14]; exact xt_l _ hc
          have hk3 : (xt G L14).2.1 b3 = 9 := by rw [eL14]; exact xt_k _ hc3 hk3
          have hc3 : b3 < (xt G L14).1 := by rw [eL14]; exact xt_l _ hc3
          have hk4 : (xt G L14).2.1 b4 = 13 := by rw [eL14]; exact xt_k _ hc4 hk4
          have hc4 : b4 < (xt G L14).1 := by rw [eL14]; exact xt_l _ hc4
          refine lv_aload_n hx hb dX0_endSlice_73 rfl (lv_at hl 1 rfl) ?_
          refine va_get (D := D) (ci := 0) (v := va_re ad15 (y12.2.2 a 2)) (C := RX0) (T := TX0) (N := 21) hx hb hts (by decide +kernel) hown hK hP a (wld_o ct ad15 (xt G L14) y12.2 hc hk (by decide)) rfl 2 (by decide) (hts (.fieldLink RX0 29 "VideoSuite$Coder" "writer" "LVideoSuite$Writer;") (by decide +kernel)) (fun _ h9 => h9) rfl dX0_endSlice_74 ?_
          refine lv_iload_n hx hb dX0_endSlice_77 rfl (lv_at hl 0 rfl) ?_
          obtain ⟨b16, ho16, hc16, hk16, hF⟩ := dr_some hF
          refine W_st (st' := [.int y6, .ref (ad15 b16)]) (by rw [va_some ho16]) ?_
          obtain ⟨y17, hy17, hF⟩ := bnd_some hF
          obtain ⟨w18, hF, ew18⟩ := app_some hF
          obtain ⟨L19, eL19, hF⟩ := ltt_some hF
          have hT19 : y.1 = (L14 ++ y17.1) ++ w18.1 := by rw [hT, ew18]; simp only [List.append_assoc]
          have hf9 := wA_in hD hA9 hS
          refine va_callv (va_runV (As := [.int y6]) (rest := []) ⟨hx, hb, hml, hown, hts⟩ (kX10_endUnit l D ct ad15 Z (xt G L14) y12.2 _ b16 y6 y17 hc16 hk16 hy17) (cwV 1 hts gX0_endSlice_X10_endUnit rfl rfl rfl (by decide +kernel) ⟨Nat.le_of_ble_eq_true rfl, Nat.le_of_ble_eq_true rfl⟩) ⟨fun a U g mk q => by obtain ⟨q0, q1, qP, qK, qD, qZ, qN⟩ := q; exact ⟨q0, q1, qP, va_K.moved (u := U) (U := U.calling g mk a) (Vm.Alike.refl U.vm) qK, qD, sF.moved (u := U) (U := U.calling g mk a) (Vm.Alike.refl U.vm) qZ, nF.same rfl qN⟩, va_recv hK hP (ci := 10) (q0 := b16) rfl (wld_o ct ad15 (xt G L14) y12.2 hc16 hk16 (by decide)), fun U hU hW => ⟨rfl, by rw [hU], by rw [hU]; exact hP, va_K.moved hW.alike hK, hD.weaken (fun _ _ _ _ => trivial), by rw [hU]; exact ((hZ.kept hS.2.1).narrow hf9).moved hW.alike, hN.warm hW⟩⟩ rfl rfl hl.1 rfl (lv_room (Nat.le_of_ble_eq_true rfl)) dX0_endSlice_78 (room_s hT19 hbl)) hS (fun q _ h => hf9 q h) hf9 (fun ad20 t H locs ht hvm hw hB hz1 hk1 hS => ?_)
          have hn21 := hw
          obtain ⟨hP, hK9, hD9⟩ := hB
          rw [ht] at hP
          have hD := hD9.weaken (fun _ q _ h => hf9 q.1 h)
          rw [xt_xt, ← eL19] at hP hD
          refine W_cs (k := L19.length) (n := wt L19) (by rw [eL19]; exact (len_s L14 y17.1).symm) (by rw [eL19]; exact (wt_app L14 y17.1).symm) ?_
          have hT : y.1 = L19 ++ w18.1 := by rw [hT19, eL19]
          have h2 : y.2 = w18.2 := by rw [h2, ew18]
          have hl := lv_sub (l' := []) hl [] rfl
          have hk : (xt G L19).2.1 a = 0 := by rw [eL19]; exact xt_k _ hc hk
          have hc : a < (xt G L19).1 := by rw [eL19]; exact xt_l _ hc
          have hk3 : (xt G L19).2.1 b3 = 9 := by rw [eL19]; exact xt_k _ hc3 hk3
          have hc3 : b3 < (xt G L19).1 := by rw [eL19]; exact xt_l _ hc3
          have hk4 : (xt G L19).2.1 b4 = 13 := by rw [eL19]; exact xt_k _ hc4 hk4
          have hc4 : b4 < (xt G L19).1 := by rw [eL19]; exact xt_l _ hc4
          have hk16 : (xt G L19).2.1 b16 = 10 := by rw [eL19]; exact xt_k _ hc16 hk16
          have hc16 : b16 < (xt G L19).1 := by rw [eL19]; exact xt_l _ hc16
          have hag := agr_t (xt_ge _ _) hag hn21
          obtain rfl := Option.some.inj hF
          have e1 : y.1 = L19 := by rw [hT]; exact List.append_nil _
          have e2 : y.2 = y17.2 := h2
          refine W.widen (k := y.1.length) (n := wt y.1) (Nat.le_of_eq (by rw [e1])) (Nat.le_of_eq (by rw [e1])) ?_
          exact W.vret hx hb hr (fun t ht hW => ⟨⟨ad20, rfl, hag, (by unfold kE; rw [e1, e2]; exact ⟨by rw [ht]; exact hP, va_K.moved hW.alike hK, hD⟩)⟩, hS.F ht⟩) hS.2.2 dX0_endSlice_81
        clear hF
        obtain ⟨w22, hw22⟩ : ∃ z, z = y12 := ⟨_, rfl⟩
        have hF := hy12
        rw [← hw22] at hF
        clear hy12
        have hT : L14 = L9 ++ w22.1 := by rw [eL14, hw22]
        have h2 : y12.2 = w22.2 := by rw [hw22]
        have hbl := hbl14
        refine lv_if_ne (tgt := 73) hx hb dX0_endSlice_45 (by decide) (fun c23 => ?_) (fun c23 => ?_)
        · rw [if_neg c23] at hF
          obtain rfl := Option.some.inj hF
          have e1 : L14 = L9 := by rw [hT]; exact List.append_nil _
          have e2 : y12.2 = y7.2 := h2
          rw [e1] at J12
          try rw [e2] at J12
          exact J12 _ hag _ _ _ hP hD hS (lv_sub hl [0, 2] rfl)
        · rw [if_pos c23] at hF
          refine lv_aload_n hx hb dX0_endSlice_48 rfl (lv_at hl 2 rfl) ?_
          refine va_get (D := D) (ci := 0) (v := va_re ad10 (y7.2.2 a 2)) (C := RX0) (T := TX0) (N := 21) hx hb hts (by decide +kernel) hown hK hP a (wld_o ct ad10 (xt G L9) y7.2 hc hk (by decide)) rfl 2 (by decide) (hts (.fieldLink RX0 29 "VideoSuite$Coder" "writer" "LVideoSuite$Writer;") (by decide +kernel)) (fun _ h9 => h9) rfl dX0_endSlice_49 ?_
          obtain ⟨b24, ho24, hc24, hk24, hF⟩ := dr_some hF
          refine W_st (st' := [.ref (ad10 b24)]) (by rw [va_some ho24]) ?_
          refine va_get (D := D) (ci := 10) (v := .int (y7.2.1 b24 3)) (C := RX10) (T := TX10) (N := 20) hx hb hts (by decide +kernel) hown hK hP b24 (wld_o ct ad10 (xt G L9) y7.2 hc24 hk24 (by decide)) rfl 3 (by decide) (hts (.fieldLink RX0 309 "VideoSuite$Writer" "run" "I") (by decide +kernel)) (fun _ h9 => h9) rfl dX0_endSlice_52 ?_
          obtain ⟨x25, ex25, hF⟩ := ltt_some hF
          refine lv_topi (fun zx25 ezx25 => ?_)
          obtain rfl : x25 = zx25 := ex25.trans ezx25.symm
          obtain ⟨y26, hy26, hF⟩ := bnd_some hF
          obtain ⟨w27, hF, ew27⟩ := app_some hF
          obtain ⟨L28, eL28, hF⟩ := ltt_some hF
          have hT28 : L14 = (L9 ++ y26.1) ++ w27.1 := by rw [hT, ew27]; simp only [List.append_assoc]
          have hbl28 : L28.length ≤ y.1.length ∧ wt L28 ≤ wt y.1 := by rw [eL28]; exact room_d hT28 hbl
          have J26 : ∀ (ad29 : Nat → Nat), agr G.1 ad ad29 → ∀ (H : Heap) (locs : List Loc) (ls : Array Slot), va_P D classes (wld ct ad29 (xt G L28) y26.2) H → va_D A (wld ct ad29 (xt G L28) y26.2) → va_S A s.heap H locs → lv_has ls 4 [(3, .int y6), (0, .ref (ad29 a))] → W p l e (headSpec wsX0_endSlice ({ frames := 6, cells := y.1.length, slots := wt y.1, locals := 197 })).room s m ([.ref (ad a), .int p0] : List Value).toArray below meth c H locs (L28 : NN).length (wt L28) (MQ below (va_Qv (fun (u : Nat → Nat) => agr G.1 ad u) (fun u t => kE D ct u (xt G y.1) A y.2 t) A) ([.ref (ad a), .int p0] : List Value).toArray s y.1.length (wt y.1) A) (F0 m 73 ls []) := by
            intro ad29 hag H locs ls hP hD hS hl
            have hT : L14 = L28 ++ w27.1 := by rw [hT28, eL28]
            have h2 : y12.2 = w27.2 := by rw [h2, ew27]
            have hk : (xt G L28).2.1 a = 0 := by rw [eL28]; exact xt_k _ hc hk
            have hc : a < (xt G L28).1 := by rw [eL28]; exact xt_l _ hc
            have hk3 : (xt G L28).2.1 b3 = 9 := by rw [eL28]; exact xt_k _ hc3 hk3
            have hc3 : b3 < (xt G L28).1 := by rw [eL28]; exact xt_l _ hc3
            have hk4 : (xt G L28).2.1 b4 = 13 := by rw [eL28]; exact xt_k _ hc4 hk4
            have hc4 : b4 < (xt G L28).1 := by rw [eL28]; exact xt_l _ hc4
            have hk24 : (xt G L28).2.1 b24 = 10 := by rw [eL28]; exact xt_k _ hc24 hk24
            have hc24 : b24 < (xt G L28).1 := by rw [eL28]; exact xt_l _ hc24
            obtain rfl := Option.some.inj hF
            have e1 : L14 = L28 := by rw [hT]; exact List.append_nil _
            have e2 : y12.2 = y26.2 := h2
            rw [e1] at J12
            try rw [e2] at J12
            exact J12 _ hag _ _ _ hP hD hS (lv_sub hl [0, 1] rfl)
          clear hF
          obtain ⟨w30, hw30⟩ : ∃ z, z = y26 := ⟨_, rfl⟩
          have hF := hy26
          rw [← hw30] at hF
          clear hy26
          have hT : L28 = L9 ++ w30.1 := by rw [eL28, hw30]
          have h2 : y26.2 = w30.2 := by rw [hw30]
          have hbl := hbl28
          refine lv_if_le (tgt := 73) hx hb dX0_endSlice_55 (by decide) (fun c31 => ?_) (fun c31 => ?_)
          · rw [if_pos c31] at hF
            obtain rfl := Option.some.inj hF
            have e1 : L28 = L9 := by rw [hT]; exact List.append_nil _
            have e2 : y26.2 = y7.2 := h2
            rw [e1] at J26
            try rw [e2] at J26
            exact J26 _ hag _ _ _ hP hD hS (lv_sub hl [0, 2] rfl)
          · rw [if_neg c31] at hF
            refine lv_aload_n hx hb dX0_endSlice_58 rfl (lv_at hl 2 rfl) ?_
            refine va_get (D := D) (ci := 0) (v := va_re ad10 (y7.2.2 a 2)) (C := RX0) (T := TX0) (N := 21) hx hb hts (by decide +kernel) hown hK hP a (wld_o ct ad10 (xt G L9) y7.2 hc hk (by decide)) rfl 2 (by decide) (hts (.fieldLink RX0 29 "VideoSuite$Coder" "writer" "LVideoSuite$Writer;") (by decide +kernel)) (fun _ h9 => h9) rfl dX0_endSlice_59 ?_
            refine lv_iconst (v := (0 : Int32)) hx hb dX0_endSlice_62 (by decide) ?_
            refine lv_aload_n hx hb dX0_endSlice_63 rfl (lv_at hl 2 rfl) ?_
            refine va_get (D := D) (ci := 0) (v := va_re ad10 (y7.2.2 a 2)) (C := RX0) (T := TX0) (N := 21) hx hb hts (by decide +kernel) hown hK hP a (wld_o ct ad10 (xt G L9) y7.2 hc hk (by decide)) rfl 2 (by decide) (hts (.fieldLink RX0 29 "VideoSuite$Coder" "writer" "LVideoSuite$Writer;") (by decide +kernel)) (fun _ h9 => h9) rfl dX0_endSlice_64 ?_
            refine W_st (st' := [.ref (ad10 b24), .int (0 : Int32), .ref (ad10 b24)]) (by rw [va_some ho24]) ?_
            refine va_get (D := D) (ci := 10) (v := .int (y7.2.1 b24 3)) (C := RX10) (T := TX10) (N := 20) hx hb hts (by decide +kernel) hown hK hP b24 (wld_o ct ad10 (xt G L9) y7.2 hc24 hk24 (by decide)) rfl 3 (by decide) (hts (.fieldLink RX0 309 "VideoSuite$Writer" "run" "I") (by decide +kernel)) (fun _ h9 => h9) rfl dX0_endSlice_67 ?_
            obtain ⟨x32, ex32, hF⟩ := ltt_some hF
            refine lv_topi (fun zx32 ezx32 => ?_)
            obtain rfl : x32 = zx32 := ex32.trans ezx32.symm
            obtain ⟨y33, hy33, hF⟩ := bnd_some hF
            obtain ⟨w34, hF, ew34⟩ := app_some hF
            obtain ⟨L35, eL35, hF⟩ := ltt_some hF
            have hT35 : L28 = (L9 ++ y33.1) ++ w34.1 := by rw [hT, ew34]; simp only [List.append_assoc]
            have hf9 := wA_in hD hA9 hS
            refine va_callv (va_runV (As := [.int (0 : Int32), .int x32]) (rest := []) ⟨hx, hb, hml, hown, hts⟩ (kX10_ue l D ct ad10 Z (xt G L9) y7.2 _ b24 ((0 : Int32)) x32 y33 hc24 hk24 hy33) (cwV 2 hts gX0_endSlice_X10_ue rfl rfl rfl (by decide +kernel) ⟨Nat.le_of_ble_eq_true rfl, Nat.le_of_ble_eq_true rfl⟩) ⟨fun a U g mk q => by obtain ⟨q0, q1, qP, qK, qD, qZ, qN⟩ := q; exact ⟨q0, q1, qP, va_K.moved (u := U) (U := U.calling g mk a) (Vm.Alike.refl U.vm) qK, qD, sF.moved (u := U) (U := U.calling g mk a) (Vm.Alike.refl U.vm) qZ, nF.same rfl qN⟩, va_recv hK hP (ci := 10) (q0 := b24) rfl (wld_o ct ad10 (xt G L9) y7.2 hc24 hk24 (by decide)), fun U hU hW => ⟨rfl, by rw [hU], by rw [hU]; exact hP, va_K.moved hW.alike hK, hD.weaken (fun _ _ _ _ => trivial), by rw [hU]; exact ((hZ.kept hS.2.1).narrow hf9).moved hW.alike, hN.warm hW⟩⟩ rfl rfl hl.1 rfl (lv_room (Nat.le_of_ble_eq_true rfl)) dX0_endSlice_70 (room_s hT35 hbl)) hS (fun q _ h => hf9 q h) hf9 (fun ad36 t H locs ht hvm hw hB hz1 hk1 hS => ?_)
            have hn37 := hw
            obtain ⟨hP, hK9, hD9⟩ := hB
            rw [ht] at hP
            have hD := hD9.weaken (fun _ q _ h => hf9 q.1 h)
            rw [xt_xt, ← eL35] at hP hD
            refine W_cs (k := L35.length) (n := wt L35) (by rw [eL35]; exact (len_s L9 y33.1).symm) (by rw [eL35]; exact (wt_app L9 y33.1).symm) ?_
            have hT : L28 = L35 ++ w34.1 := by rw [hT35, eL35]
            have h2 : y26.2 = w34.2 := by rw [h2, ew34]
            have hl := lv_sub (l' := [(3, .int y6), (0, .ref (ad10 a))]) hl [0, 2] rfl
            have e9 : ([(3, .int y6), (0, .ref (ad10 a))] : List (Nat × Value)) = [(3, .int y6), (0, .ref (ad36 a))] := (by first | rfl | simp only [hn37 a hc])
            rw [e9] at hl
            clear e9
            have hk : (xt G L35).2.1 a = 0 := by rw [eL35]; exact xt_k _ hc hk
            have hc : a < (xt G L35).1 := by rw [eL35]; exact xt_l _ hc
            have hk3 : (xt G L35).2.1 b3 = 9 := by rw [eL35]; exact xt_k _ hc3 hk3
            have hc3 : b3 < (xt G L35).1 := by rw [eL35]; exact xt_l _ hc3
            have hk4 : (xt G L35).2.1 b4 = 13 := by rw [eL35]; exact xt_k _ hc4 hk4
            have hc4 : b4 < (xt G L35).1 := by rw [eL35]; exact xt_l _ hc4
            have hk24 : (xt G L35).2.1 b24 = 10 := by rw [eL35]; exact xt_k _ hc24 hk24
            have hc24 : b24 < (xt G L35).1 := by rw [eL35]; exact xt_l _ hc24
            have hag := agr_t (xt_ge _ _) hag hn37
            obtain rfl := Option.some.inj hF
            have e1 : L28 = L35 := by rw [hT]; exact List.append_nil _
            have e2 : y26.2 = y33.2 := h2
            rw [e1] at J26
            try rw [e2] at J26
            exact J26 _ hag _ _ _ hP hD hS (lv_sub hl [0, 1] rfl)
      · rw [if_pos c11] at hF
        obtain rfl := Option.some.inj hF
        have e1 : y.1 = L9 := by rw [hT]; exact List.append_nil _
        have e2 : y.2 = y7.2 := h2
        refine W.widen (k := y.1.length) (n := wt y.1) (Nat.le_of_eq (by rw [e1])) (Nat.le_of_eq (by rw [e1])) ?_
        exact W.vret hx hb hr (fun t ht hW => ⟨⟨ad10, rfl, hag, (by unfold kE; rw [e1, e2]; exact ⟨by rw [ht]; exact hP, va_K.moved hW.alike hK, hD⟩)⟩, hS.F ht⟩) hS.2.2 dX0_endSlice_43
    clear hF
    obtain ⟨w38, hw38⟩ : ∃ z, z = y7 := ⟨_, rfl⟩
    have hF := hy7
    rw [← hw38] at hF
    clear hy7
    have hT : L9 = [] ++ w38.1 := by rw [eL9, hw38]
    have h2 : y7.2 = w38.2 := by rw [hw38]
    have hbl := hbl9
    refine lv_if_eq (tgt := 39) hx hb dX0_endSlice_28 (by decide) (fun c39 => ?_) (fun c39 => ?_)
    · rw [if_pos c39] at hF
      obtain rfl := Option.some.inj hF
      have e1 : L9 = [] := by rw [hT]; exact List.append_nil _
      have e2 : y7.2 = y2.1 := h2
      rw [e1] at J7
      try rw [e2] at J7
      exact J7 _ hag _ _ _ hP hD hS (lv_sub hl [0, 1, 2] rfl)
    · rw [if_neg c39] at hF
      refine lv_aload_n hx hb dX0_endSlice_31 rfl (lv_at hl 2 rfl) ?_
      refine va_get (D := D) (ci := 0) (v := va_re ad (y2.1.2 a 2)) (C := RX0) (T := TX0) (N := 21) hx hb hts (by decide +kernel) hown hK hP a (wld_o ct ad (xt G []) y2.1 hc hk (by decide)) rfl 2 (by decide) (hts (.fieldLink RX0 29 "VideoSuite$Coder" "writer" "LVideoSuite$Writer;") (by decide +kernel)) (fun _ h9 => h9) rfl dX0_endSlice_32 ?_
      refine lv_iload_n hx hb dX0_endSlice_35 rfl (lv_at hl 1 rfl) ?_
      obtain ⟨b40, ho40, hc40, hk40, hF⟩ := dr_some hF
      refine W_st (st' := [.int y2.2, .ref (ad b40)]) (by rw [va_some ho40]) ?_
      obtain ⟨y41, hy41, hF⟩ := bnd_some hF
      obtain ⟨w42, hF, ew42⟩ := app_some hF
      obtain ⟨L43, eL43, hF⟩ := ltt_some hF
      have hT43 : L9 = ([] ++ y41.1) ++ w42.1 := by rw [hT, ew42]; simp only [List.append_assoc]
      have hf9 := wA_in hD hA9 hS
      refine va_callv (va_runV (As := [.int y2.2]) (rest := []) ⟨hx, hb, hml, hown, hts⟩ (kX10_last l D ct ad Z (xt G []) y2.1 _ b40 y2.2 y41 hc40 hk40 hy41) (cwV 1 hts gX0_endSlice_X10_last rfl rfl rfl (by decide +kernel) ⟨Nat.le_of_ble_eq_true rfl, Nat.le_of_ble_eq_true rfl⟩) ⟨fun a U g mk q => by obtain ⟨q0, q1, qP, qK, qD, qZ, qN⟩ := q; exact ⟨q0, q1, qP, va_K.moved (u := U) (U := U.calling g mk a) (Vm.Alike.refl U.vm) qK, qD, sF.moved (u := U) (U := U.calling g mk a) (Vm.Alike.refl U.vm) qZ, nF.same rfl qN⟩, va_recv hK hP (ci := 10) (q0 := b40) rfl (wld_o ct ad (xt G []) y2.1 hc40 hk40 (by decide)), fun U hU hW => ⟨rfl, by rw [hU], by rw [hU]; exact hP, va_K.moved hW.alike hK, hD.weaken (fun _ _ _ _ => trivial), by rw [hU]; exact ((hZ.kept hS.2.1).narrow hf9).moved hW.alike, hN.warm hW⟩⟩ rfl rfl hl.1 rfl (lv_room (Nat.le_of_ble_eq_true rfl)) dX0_endSlice_36 (room_s hT43 hbl)) hS (fun q _ h => hf9 q h) hf9 (fun ad44 t H locs ht hvm hw hB hz1 hk1 hS => ?_)
      have hn45 := hw
      obtain ⟨hP, hK9, hD9⟩ := hB
      rw [ht] at hP
      have hD := hD9.weaken (fun _ q _ h => hf9 q.1 h)
      rw [xt_xt, ← eL43] at hP hD
      refine W_cs (k := L43.length) (n := wt L43) (by rw [eL43]; exact (len_s [] y41.1).symm) (by rw [eL43]; exact (wt_app [] y41.1).symm) ?_
      have hT : L9 = L43 ++ w42.1 := by rw [hT43, eL43]
      have h2 : y7.2 = w42.2 := by rw [h2, ew42]
      have hl := lv_sub (l' := [(3, .int y6), (2, .int y2.2), (0, .ref (ad a))]) hl [0, 1, 2] rfl
      have e9 : ([(3, .int y6), (2, .int y2.2), (0, .ref (ad a))] : List (Nat × Value)) = [(3, .int y6), (2, .int y2.2), (0, .ref (ad44 a))] := (by first | rfl | simp only [hn45 a hc])
      rw [e9] at hl
      clear e9
      have hk : (xt G L43).2.1 a = 0 := by rw [eL43]; exact xt_k _ hc hk
      have hc : a < (xt G L43).1 := by rw [eL43]; exact xt_l _ hc
      have hk3 : (xt G L43).2.1 b3 = 9 := by rw [eL43]; exact xt_k _ hc3 hk3
      have hc3 : b3 < (xt G L43).1 := by rw [eL43]; exact xt_l _ hc3
      have hk4 : (xt G L43).2.1 b4 = 13 := by rw [eL43]; exact xt_k _ hc4 hk4
      have hc4 : b4 < (xt G L43).1 := by rw [eL43]; exact xt_l _ hc4
      have hk40 : (xt G L43).2.1 b40 = 10 := by rw [eL43]; exact xt_k _ hc40 hk40
      have hc40 : b40 < (xt G L43).1 := by rw [eL43]; exact xt_l _ hc40
      have hag := agr_t (xt_ge _ _) hag hn45
      obtain rfl := Option.some.inj hF
      have e1 : L9 = L43 := by rw [hT]; exact List.append_nil _
      have e2 : y7.2 = y41.2 := h2
      rw [e1] at J7
      try rw [e2] at J7
      exact J7 _ hag _ _ _ hP hD hS (lv_sub hl [0, 1, 2] rfl)
  clear hF
  have hF := hy6
  clear hy6
  refine lv_icmp_ne (tgt := 25) hx hb dX0_endSlice_18 (by decide) (fun c46 => ?_) (fun c46 => ?_)
  · rw [if_neg c46] at hF
    refine lv_iconst (v := (0 : Int32)) hx hb dX0_endSlice_25 (by decide) ?_
    obtain rfl := Option.some.inj hF
    exact J6 _ _ _ hP hD hS (lv_sub hl [0, 1, 2] rfl)
  · rw [if_pos c46] at hF
    refine lv_iconst (v := (1 : Int32)) hx hb dX0_endSlice_21 (by decide) ?_
    refine lv_goto (tgt := 26) hx hb dX0_endSlice_22 (by decide) ?_
    obtain rfl := Option.some.inj hF
    exact J6 _ _ _ hP hD hS (lv_sub hl [0, 1, 2] rfl)
theorem ggX0_useBest_X9_plan : GoodIn wsX0_useBest wsX9_plan := goodIn_r _ [98, 99, 100, 101, 102, 103, 104, 8, 105, 106, 107, 108, 109, 110, 111, 112, 113, 114, 115, 116, 117, 118, 157, 158, 159, 160, 161, 162, 163, 164, 165, 166, 167, 168, 169, 170, 171, 172, 173, 174, 175, 176] (by decide +kernel) (by decide +kernel)
set_option maxRecDepth 20000 in
theorem gX0_useBest_X9_plan : GoodIn wsX0_useBest (wsV RX0 384 RX9 yX9_plan wsX9_plan) := goodIn_app (goodIn_of _ (by decide +kernel)) ggX0_useBest_X9_plan
set_option maxRecDepth 20000 in
theorem ggX0_useBest_X9_guess : GoodIn wsX0_useBest wsX9_guess := goodIn_r _ [77, 78, 79, 8, 80, 81, 82, 83, 63, 64, 65, 66, 23, 67, 68, 69, 70, 71, 72, 73, 58, 84, 85, 86, 87, 20, 13, 14, 88, 89, 90, 91, 157, 158, 159, 160, 161, 162, 163, 164, 165, 166, 167, 168, 169, 170, 171, 172, 173, 174, 175, 176, 181, 182, 183, 184, 185, 186, 187, 188, 189, 190, 191, 192, 193, 194, 195, 196, 197, 198] (by decide +kernel) (by decide +kernel)
set_option maxRecDepth 20000 in
theorem gX0_useBest_X9_guess : GoodIn wsX0_useBest (wsV RX0 415 RX9 yX9_guess wsX9_guess) := goodIn_app (goodIn_of _ (by decide +kernel)) ggX0_useBest_X9_guess
set_option maxRecDepth 20000 in
theorem ggX0_useBest_X9_setReference : GoodIn wsX0_useBest wsX9_setReference := goodIn_r _ [123, 10, 113, 23, 58, 19, 43, 78, 79, 8, 80, 81, 82, 83, 36, 37, 27, 38, 157, 158, 159, 160, 161, 162, 163, 164, 165, 166, 167, 168, 169, 170, 171, 172, 173, 174, 175, 176, 181, 182, 183, 184, 185, 186, 187, 188, 189, 190, 191, 192, 193, 194, 195, 196, 197, 198] (by decide +kernel) (by decide +kernel)
set_option maxRecDepth 20000 in
theorem gX0_useBest_X9_setReference : GoodIn wsX0_useBest (wsV RX0 393 RX9 yX9_setReference wsX9_setReference) := goodIn_app (goodIn_of _ (by decide +kernel)) ggX0_useBest_X9_setReference
set_option maxRecDepth 20000 in
theorem ggX0_useBest_X0_setVector : GoodIn wsX0_useBest wsX0_setVector := goodIn_r _ [128, 1, 129, 130, 131, 132, 133, 134, 8, 135, 118, 23, 20, 78, 79, 80, 81, 82, 83, 36, 37, 27, 38, 136, 137, 138, 139, 140, 141, 142, 143, 144, 145, 146, 147, 148, 149, 150, 151, 152, 153, 154, 155, 156, 157, 158, 159, 160, 161, 162, 163, 164, 165, 166, 167, 168, 169, 170, 171, 172, 173, 174, 175, 176, 181, 182, 183, 184, 185, 186, 187, 188, 189, 190, 191, 192, 193, 194, 195, 196, 197, 198] (by decide +kernel) (by decide +kernel)
set_option maxRecDepth 20000 in
theorem gX0_useBest_X0_setVector : GoodIn wsX0_useBest (wsV RX0 425 RX0 yX0_setVector wsX0_setVector) := goodIn_app (goodIn_of _ (by decide +kernel)) ggX0_useBest_X0_setVector
theorem ggX0_useBest_X9_direct : GoodIn wsX0_useBest wsX9_direct := goodIn_r _ [9, 10, 11, 12, 13, 14, 15, 16, 17, 8, 18, 19, 20, 21, 22, 23, 24, 25, 26, 27, 28, 29, 30, 31, 32, 33, 34, 35, 36, 37, 38, 39, 40, 41, 42, 43, 44, 45, 46, 47, 48, 49, 50, 51, 52, 53, 54, 55, 56, 57, 58, 59, 60, 61, 62, 63, 64, 65, 66, 67, 68, 69, 70, 71, 72, 73, 74, 75, 76, 77, 78, 79, 80, 81, 82, 83, 84, 85, 86, 87, 88, 89, 90, 91, 92, 93, 94, 157, 158, 159, 160, 161, 162, 163, 164, 165, 166, 167, 168, 169, 170, 171, 172, 173, 174, 175, 176, 177, 178, 179, 180, 181, 182, 183, 184, 185, 186, 187, 188, 189, 190, 191, 192, 193, 194, 195, 196, 197, 198] (by decide +kernel) (by decide +kernel)
set_option maxRecDepth 20000 in
theorem gX0_useBest_X9_direct : GoodIn wsX0_useBest (wsV RX0 372 RX9 yX9_direct wsX9_direct) := goodIn_app (goodIn_of _ (by decide +kernel)) ggX0_useBest_X9_direct
set_option maxRecDepth 20000 in
theorem dX0_useBest_0 : decode cX0_useBest 0 = .ok (.aload_n 0, 1) := by decide +kernel
theorem dX0_useBest_1 : decode cX0_useBest 1 = .ok (.getfield 36, 3) := by decide +kernel
theorem dX0_useBest_4 : decode cX0_useBest 4 = .ok (.getfield 216, 3) := by decide +kernel
theorem dX0_useBest_7 : decode cX0_useBest 7 = .ok (.bipush 8, 2) := by decide +kernel
theorem dX0_useBest_9 : decode cX0_useBest 9 = .ok (.iload_n 1, 1) := by decide +kernel
theorem dX0_useBest_10 : decode cX0_useBest 10 = .ok (.imul, 1) := by decide +kernel
theorem dX0_useBest_11 : decode cX0_useBest 11 = .ok (.iconst 1, 1) := by decide +kernel
theorem dX0_useBest_12 : decode cX0_useBest 12 = .ok (.iadd, 1) := by decide +kernel
theorem dX0_useBest_13 : decode cX0_useBest 13 = .ok (.iload_n 3, 1) := by decide +kernel
theorem dX0_useBest_14 : decode cX0_useBest 14 = .ok (.iastore, 1) := by decide +kernel
theorem dX0_useBest_15 : decode cX0_useBest 15 = .ok (.iload_n 2, 1) := by decide +kernel
theorem dX0_useBest_16 : decode cX0_useBest 16 = .ok (.iconst 1, 1) := by decide +kernel
theorem dX0_useBest_17 : decode cX0_useBest 17 = .ok (.if_icmp .ne 19, 3) := by decide +kernel
theorem dX0_useBest_20 : decode cX0_useBest 20 = .ok (.iload_n 3, 1) := by decide +kernel
theorem dX0_useBest_21 : decode cX0_useBest 21 = .ok (.ifCond .ne 15, 3) := by decide +kernel
theorem dX0_useBest_24 : decode cX0_useBest 24 = .ok (.aload_n 0, 1) := by decide +kernel
theorem dX0_useBest_25 : decode cX0_useBest 25 = .ok (.getfield 36, 3) := by decide +kernel
theorem dX0_useBest_28 : decode cX0_useBest 28 = .ok (.iload_n 1, 1) := by decide +kernel
theorem dX0_useBest_29 : decode cX0_useBest 29 = .ok (.bipush 15, 2) := by decide +kernel
theorem dX0_useBest_31 : decode cX0_useBest 31 = .ok (.invokevirtual 372, 3) := by decide +kernel
theorem dX0_useBest_34 : decode cX0_useBest 34 = .ok (.pop, 1) := by decide +kernel
theorem dX0_useBest_35 : decode cX0_useBest 35 = .ok (.return_, 1) := by decide +kernel
theorem dX0_useBest_36 : decode cX0_useBest 36 = .ok (.aload_n 0, 1) := by decide +kernel
theorem dX0_useBest_37 : decode cX0_useBest 37 = .ok (.getfield 36, 3) := by decide +kernel
theorem dX0_useBest_40 : decode cX0_useBest 40 = .ok (.iload_n 2, 1) := by decide +kernel
theorem dX0_useBest_41 : decode cX0_useBest 41 = .ok (.iload_n 3, 1) := by decide +kernel
theorem dX0_useBest_42 : decode cX0_useBest 42 = .ok (.invokevirtual 384, 3) := by decide +kernel
theorem dX0_useBest_45 : decode cX0_useBest 45 = .ok (.iconst 0, 1) := by decide +kernel
theorem dX0_useBest_46 : decode cX0_useBest 46 = .ok (.istore 4, 2) := by decide +kernel
theorem dX0_useBest_48 : decode cX0_useBest 48 = .ok (.iload 4, 2) := by decide +kernel
theorem dX0_useBest_50 : decode cX0_useBest 50 = .ok (.iconst 2, 1) := by decide +kernel
theorem dX0_useBest_51 : decode cX0_useBest 51 = .ok (.if_icmp .ge 104, 3) := by decide +kernel
theorem dX0_useBest_54 : decode cX0_useBest 54 = .ok (.aload_n 0, 1) := by decide +kernel
theorem dX0_useBest_55 : decode cX0_useBest 55 = .ok (.getfield 36, 3) := by decide +kernel
theorem dX0_useBest_58 : decode cX0_useBest 58 = .ok (.getfield 403, 3) := by decide +kernel
theorem dX0_useBest_61 : decode cX0_useBest 61 = .ok (.iconst 3, 1) := by decide +kernel
theorem dX0_useBest_62 : decode cX0_useBest 62 = .ok (.iaload, 1) := by decide +kernel
theorem dX0_useBest_63 : decode cX0_useBest 63 = .ok (.iload 4, 2) := by decide +kernel
theorem dX0_useBest_65 : decode cX0_useBest 65 = .ok (.ishr, 1) := by decide +kernel
theorem dX0_useBest_66 : decode cX0_useBest 66 = .ok (.iconst 1, 1) := by decide +kernel
theorem dX0_useBest_67 : decode cX0_useBest 67 = .ok (.iand, 1) := by decide +kernel
theorem dX0_useBest_68 : decode cX0_useBest 68 = .ok (.iconst 1, 1) := by decide +kernel
theorem dX0_useBest_69 : decode cX0_useBest 69 = .ok (.if_icmp .ne 80, 3) := by decide +kernel
theorem dX0_useBest_72 : decode cX0_useBest 72 = .ok (.aload_n 0, 1) := by decide +kernel
theorem dX0_useBest_73 : decode cX0_useBest 73 = .ok (.getfield 36, 3) := by decide +kernel
theorem dX0_useBest_76 : decode cX0_useBest 76 = .ok (.iload_n 1, 1) := by decide +kernel
theorem dX0_useBest_77 : decode cX0_useBest 77 = .ok (.iload 4, 2) := by decide +kernel
theorem dX0_useBest_79 : decode cX0_useBest 79 = .ok (.aload_n 0, 1) := by decide +kernel
theorem dX0_useBest_80 : decode cX0_useBest 80 = .ok (.getfield 75, 3) := by decide +kernel
theorem dX0_useBest_83 : decode cX0_useBest 83 = .ok (.iconst 5, 1) := by decide +kernel
theorem dX0_useBest_84 : decode cX0_useBest 84 = .ok (.iload 4, 2) := by decide +kernel
theorem dX0_useBest_86 : decode cX0_useBest 86 = .ok (.imul, 1) := by decide +kernel
theorem dX0_useBest_87 : decode cX0_useBest 87 = .ok (.iconst 1, 1) := by decide +kernel
theorem dX0_useBest_88 : decode cX0_useBest 88 = .ok (.iadd, 1) := by decide +kernel
theorem dX0_useBest_89 : decode cX0_useBest 89 = .ok (.iaload, 1) := by decide +kernel
theorem dX0_useBest_90 : decode cX0_useBest 90 = .ok (.iconst 0, 1) := by decide +kernel
theorem dX0_useBest_91 : decode cX0_useBest 91 = .ok (.bipush 16, 2) := by decide +kernel
theorem dX0_useBest_93 : decode cX0_useBest 93 = .ok (.iconst 0, 1) := by decide +kernel
theorem dX0_useBest_94 : decode cX0_useBest 94 = .ok (.invokevirtual 415, 3) := by decide +kernel
theorem dX0_useBest_97 : decode cX0_useBest 97 = .ok (.aload_n 0, 1) := by decide +kernel
theorem dX0_useBest_98 : decode cX0_useBest 98 = .ok (.getfield 36, 3) := by decide +kernel
theorem dX0_useBest_101 : decode cX0_useBest 101 = .ok (.iload_n 1, 1) := by decide +kernel
theorem dX0_useBest_102 : decode cX0_useBest 102 = .ok (.iload 4, 2) := by decide +kernel
theorem dX0_useBest_104 : decode cX0_useBest 104 = .ok (.iconst 0, 1) := by decide +kernel
theorem dX0_useBest_105 : decode cX0_useBest 105 = .ok (.aload_n 0, 1) := by decide +kernel
theorem dX0_useBest_106 : decode cX0_useBest 106 = .ok (.getfield 75, 3) := by decide +kernel
theorem dX0_useBest_109 : decode cX0_useBest 109 = .ok (.iconst 5, 1) := by decide +kernel
theorem dX0_useBest_110 : decode cX0_useBest 110 = .ok (.iload 4, 2) := by decide +kernel
theorem dX0_useBest_112 : decode cX0_useBest 112 = .ok (.imul, 1) := by decide +kernel
theorem dX0_useBest_113 : decode cX0_useBest 113 = .ok (.iconst 1, 1) := by decide +kernel
theorem dX0_useBest_114 : decode cX0_useBest 114 = .ok (.iadd, 1) := by decide +kernel
theorem dX0_useBest_115 : decode cX0_useBest 115 = .ok (.iaload, 1) := by decide +kernel
theorem dX0_useBest_116 : decode cX0_useBest 116 = .ok (.invokevirtual 393, 3) := by decide +kernel
theorem dX0_useBest_119 : decode cX0_useBest 119 = .ok (.aload_n 0, 1) := by decide +kernel
theorem dX0_useBest_120 : decode cX0_useBest 120 = .ok (.iload_n 1, 1) := by decide +kernel
theorem dX0_useBest_121 : decode cX0_useBest 121 = .ok (.iload 4, 2) := by decide +kernel
theorem dX0_useBest_123 : decode cX0_useBest 123 = .ok (.iconst 0, 1) := by decide +kernel
theorem dX0_useBest_124 : decode cX0_useBest 124 = .ok (.aload_n 0, 1) := by decide +kernel
theorem dX0_useBest_125 : decode cX0_useBest 125 = .ok (.getfield 75, 3) := by decide +kernel
theorem dX0_useBest_128 : decode cX0_useBest 128 = .ok (.iconst 5, 1) := by decide +kernel
theorem dX0_useBest_129 : decode cX0_useBest 129 = .ok (.iload 4, 2) := by decide +kernel
theorem dX0_useBest_131 : decode cX0_useBest 131 = .ok (.imul, 1) := by decide +kernel
theorem dX0_useBest_132 : decode cX0_useBest 132 = .ok (.iconst 2, 1) := by decide +kernel
theorem dX0_useBest_133 : decode cX0_useBest 133 = .ok (.iadd, 1) := by decide +kernel
theorem dX0_useBest_134 : decode cX0_useBest 134 = .ok (.iaload, 1) := by decide +kernel
theorem dX0_useBest_135 : decode cX0_useBest 135 = .ok (.aload_n 0, 1) := by decide +kernel
theorem dX0_useBest_136 : decode cX0_useBest 136 = .ok (.getfield 75, 3) := by decide +kernel
theorem dX0_useBest_139 : decode cX0_useBest 139 = .ok (.iconst 5, 1) := by decide +kernel
theorem dX0_useBest_140 : decode cX0_useBest 140 = .ok (.iload 4, 2) := by decide +kernel
theorem dX0_useBest_142 : decode cX0_useBest 142 = .ok (.imul, 1) := by decide +kernel
theorem dX0_useBest_143 : decode cX0_useBest 143 = .ok (.iconst 3, 1) := by decide +kernel
theorem dX0_useBest_144 : decode cX0_useBest 144 = .ok (.iadd, 1) := by decide +kernel
theorem dX0_useBest_145 : decode cX0_useBest 145 = .ok (.iaload, 1) := by decide +kernel
theorem dX0_useBest_146 : decode cX0_useBest 146 = .ok (.invokevirtual 425, 3) := by decide +kernel
theorem dX0_useBest_149 : decode cX0_useBest 149 = .ok (.iinc 4 1, 3) := by decide +kernel
theorem dX0_useBest_152 : decode cX0_useBest 152 = .ok (.goto (-104), 3) := by decide +kernel
theorem dX0_useBest_155 : decode cX0_useBest 155 = .ok (.return_, 1) := by decide +kernel
def FX0_useBest (G : GG) (M : DD) (a : Nat) (p0 : Int32) (p1 : Int32) (p2 : Int32) : Option (DD) :=
  dr G 9 ((M.2 a 3)) fun b2 =>
  ltt ((((8 : Int32)) * p0)) fun x3 =>
  ltt ((x3 + ((1 : Int32)))) fun x4 =>
  dr G 13 ((M.2 b2 6)) fun b5 =>
  chk (¬ (x4 < 0 ∨ G.2.2 b5 ≤ x4.toNatClampNeg)) <|
  ltt (uI M b5 x4.toNatClampNeg p2) fun M6 =>
  if p1 = ((1 : Int32)) then (if p2 = ((0 : Int32)) then (dr G 9 ((M6.2 a 3)) fun b77 =>
  bnd (FX9_direct G M6 b77 p0 ((15 : Int32))) fun y78 =>
  some y78.1) else
  (dr G 9 ((M6.2 a 3)) fun b43 =>
  bnd (FX9_plan G M6 b43 p1 p2) fun y44 =>
  bnd (itr (fun (s46 : Int32 × DD) => ((if ((2 : Int32)) ≤ s46.1 then (some (.inr (s46.1, s46.2))) else
  (dr G 9 ((s46.2.2 a 3)) fun b50 =>
  dr G 13 ((s46.2.2 b50 13)) fun b51 =>
  chk (¬ (((3 : Int32)) < 0 ∨ G.2.2 b51 ≤ ((3 : Int32)).toNatClampNeg)) <|
  ltt (s46.2.1 b51 ((3 : Int32)).toNatClampNeg) fun x52 =>
  ltt ((x52 >>> (s46.1 &&& 31))) fun x53 =>
  ltt ((x53 &&& ((1 : Int32)))) fun x54 =>
  bnd (if x54 = ((1 : Int32)) then (ltt ((((5 : Int32)) * s46.1)) fun x58 =>
  ltt ((x58 + ((1 : Int32)))) fun x59 =>
  dr G 13 ((s46.2.2 a 20)) fun b60 =>
  chk (¬ (x59 < 0 ∨ G.2.2 b60 ≤ x59.toNatClampNeg)) <|
  ltt (s46.2.1 b60 x59.toNatClampNeg) fun x61 =>
  bnd (FX9_guess G s46.2 b50 p0 s46.1 x61 ((0 : Int32)) ((16 : Int32)) ((0 : Int32))) fun y62 =>
  ltt ((((5 : Int32)) * s46.1)) fun x63 =>
  ltt ((x63 + ((1 : Int32)))) fun x64 =>
  dr G 13 ((y62.2 a 20)) fun b65 =>
  chk (¬ (x64 < 0 ∨ G.2.2 b65 ≤ x64.toNatClampNeg)) <|
  ltt (y62.1 b65 x64.toNatClampNeg) fun x66 =>
  dr G 9 ((y62.2 a 3)) fun b67 =>
  bnd (FX9_setReference G y62 b67 p0 s46.1 ((0 : Int32)) x66) fun y68 =>
  ltt ((((5 : Int32)) * s46.1)) fun x69 =>
  ltt ((x69 + ((2 : Int32)))) fun x70 =>
  dr G 13 ((y68.2 a 20)) fun b71 =>
  chk (¬ (x70 < 0 ∨ G.2.2 b71 ≤ x70.toNatClampNeg)) <|
  ltt (y68.1 b71 x70.toNatClampNeg) fun x72 =>
  ltt ((((5 : Int32)) * s46.1)) fun x73 =>
  ltt ((x73 + ((3 : Int32)))) fun x74 =>
  chk (¬ (x74 < 0 ∨ G.2.2 b71 ≤ x74.toNatClampNeg)) <|
  ltt (y68.1 b71 x74.toNatClampNeg) fun x75 =>
  bnd (FX0_setVector G y68 a p0 s46.1 ((0 : Int32)) x72 x75) fun y76 =>
  some (y76)) else
  (some (s46.2))) fun (y55 : DD) =>
  ltt (s46.1 + (1 : Int32)) fun x56 =>
  some (.inl (x56, y55)))) : Option ((Int32 × DD) ⊕ (Int32 × DD)))) 1000000 ((0 : Int32), y44)) fun (y45 : Int32 × DD) =>
  some y45.2)) else
  (dr G 9 ((M6.2 a 3)) fun b8 =>
  bnd (FX9_plan G M6 b8 p1 p2) fun y9 =>
  bnd (itr (fun (s11 : Int32 × DD) => ((if ((2 : Int32)) ≤ s11.1 then (some (.inr (s11.1, s11.2))) else
  (dr G 9 ((s11.2.2 a 3)) fun b15 =>
  dr G 13 ((s11.2.2 b15 13)) fun b16 =>
  chk (¬ (((3 : Int32)) < 0 ∨ G.2.2 b16 ≤ ((3 : Int32)).toNatClampNeg)) <|
  ltt (s11.2.1 b16 ((3 : Int32)).toNatClampNeg) fun x17 =>
  ltt ((x17 >>> (s11.1 &&& 31))) fun x18 =>
  ltt ((x18 &&& ((1 : Int32)))) fun x19 =>
  bnd (if x19 = ((1 : Int32)) then (ltt ((((5 : Int32)) * s11.1)) fun x23 =>
  ltt ((x23 + ((1 : Int32)))) fun x24 =>
  dr G 13 ((s11.2.2 a 20)) fun b25 =>
  chk (¬ (x24 < 0 ∨ G.2.2 b25 ≤ x24.toNatClampNeg)) <|
  ltt (s11.2.1 b25 x24.toNatClampNeg) fun x26 =>
  bnd (FX9_guess G s11.2 b15 p0 s11.1 x26 ((0 : Int32)) ((16 : Int32)) ((0 : Int32))) fun y27 =>
  ltt ((((5 : Int32)) * s11.1)) fun x28 =>
  ltt ((x28 + ((1 : Int32)))) fun x29 =>
  dr G 13 ((y27.2 a 20)) fun b30 =>
  chk (¬ (x29 < 0 ∨ G.2.2 b30 ≤ x29.toNatClampNeg)) <|
  ltt (y27.1 b30 x29.toNatClampNeg) fun x31 =>
  dr G 9 ((y27.2 a 3)) fun b32 =>
  bnd (FX9_setReference G y27 b32 p0 s11.1 ((0 : Int32)) x31) fun y33 =>
  ltt ((((5 : Int32)) * s11.1)) fun x34 =>
  ltt ((x34 + ((2 : Int32)))) fun x35 =>
  dr G 13 ((y33.2 a 20)) fun b36 =>
  chk (¬ (x35 < 0 ∨ G.2.2 b36 ≤ x35.toNatClampNeg)) <|
  ltt (y33.1 b36 x35.toNatClampNeg) fun x37 =>
  ltt ((((5 : Int32)) * s11.1)) fun x38 =>
  ltt ((x38 + ((3 : Int32)))) fun x39 =>
  chk (¬ (x39 < 0 ∨ G.2.2 b36 ≤ x39.toNatClampNeg)) <|
  ltt (y33.1 b36 x39.toNatClampNeg) fun x40 =>
  bnd (FX0_setVector G y33 a p0 s11.1 ((0 : Int32)) x37 x40) fun y41 =>
  some (y41)) else
  (some (s11.2))) fun (y20 : DD) =>
  ltt (s11.1 + (1 : Int32)) fun x21 =>
  some (.inl (x21, y20)))) : Option ((Int32 × DD) ⊕ (Int32 × DD)))) 1000000 ((0 : Int32), y9)) fun (y10 : Int32 × DD) =>
  some y10.2)
set_option maxHeartbeats 4000000 in
set_option maxRecDepth 100000 in
theorem kX0_useBest (l : Launch) (D : va_G) (ct : CT) (ad : Nat → Nat) (Z : Nat → Nat) (G : GG) (M : DD) (sz : Nat) (a : Nat) (p0 : Int32) (p1 : Int32) (p2 : Int32) (y : DD) (hc : a < G.1) (hk : G.2.1 a = 0) (hF : FX0_useBest G M a p0 p1 p2 = some y) : Met l yX0_useBest wsX0_useBest ({ frames := 4, cells := 0, slots := 0, locals := 109 }) (va_Pc [.ref (ad a), .int p0, .int p1, .int p2] (kB D ct ad Z G M sz)) (va_Qv (fun (_ : Unit) => True) (fun _ t => kE D ct ad G (wA ad G sz) y t) (wA ad G sz)) 0 0 (wA ad G sz) := by
  refine Met.ofW (cc := cX0_useBest) (maxL := 5) (ret := none) (by decide) rfl ?_
  intro p e s m args below meth c s₁ B hml hv
  obtain ⟨rfl, hsz, hP, hK, hD0, hZ, hN⟩ := hv
  have hx := B.exec
  have hb := B.bytes
  have hr := B.returns
  have hts := atoms_spec (ws := wsX0_useBest) B.pre
  have hown : s.vm.findClass RX0 = some m.cls := findClass_of_methodNamed B.named
  have hlocks := B.notSynchronized
  subst hsz
  have hD := wD_self (sz := s.heap.size) hD0
  have hA9 : ∀ q, s.heap.size ≤ q → wA ad G s.heap.size q := fun q h => Or.inr h
  generalize hAe : wA ad G s.heap.size = A at hD hA9 hZ ⊢
  have hS : va_S A s.heap s.heap [] := va_S.rf
  have hl := lv_entry ([.ref (ad a), .int p0, .int p1, .int p2]) (n := 5) (Nat.le_of_ble_eq_true rfl)
  rw [lg_entry_eq]
  generalize (lg_sl ([.ref (ad a), .int p0, .int p1, .int p2]) ++ List.replicate (5 - (lg_sl ([.ref (ad a), .int p0, .int p1, .int p2])).length) Slot.unset).toArray = ls at hl ⊢
  have hl : lv_has ls 5 [(0, .ref (ad a)), (1, .int p0), (2, .int p1), (3, .int p2)] := hl
  unfold FX0_useBest at hF
  refine lv_aload_n hx hb dX0_useBest_0 rfl (lv_at hl 0 rfl) ?_
  refine va_get (D := D) (ci := 0) (v := va_re ad (M.2 a 3)) (C := RX0) (T := TX0) (N := 21) hx hb hts (by decide +kernel) hown hK hP a (wld_o ct ad G M hc hk (by decide)) rfl 3 (by decide) (hts (.fieldLink RX0 36 "VideoSuite$Coder" "work" "LVideoSuite$Work;") (by decide +kernel)) (fun _ h9 => h9) rfl dX0_useBest_1 ?_
  obtain ⟨b2, ho2, hc2, hk2, hF⟩ := dr_some hF
  refine W_st (st' := [.ref (ad b2)]) (by rw [va_some ho2]) ?_
  refine va_get (D := D) (ci := 9) (v := va_re ad (M.2 b2 6)) (C := RX9) (T := TX9) (N := 20) hx hb hts (by decide +kernel) hown hK hP b2 (wld_o ct ad G M hc2 hk2 (by decide)) rfl 6 (by decide) (hts (.fieldLink RX0 216 "VideoSuite$Work" "info" "[I") (by decide +kernel)) (fun _ h9 => h9) rfl dX0_useBest_4 ?_
  refine lv_bipush (v := (8 : Int32)) hx hb dX0_useBest_7 (by decide) ?_
  refine lv_iload_n hx hb dX0_useBest_9 rfl (lv_at hl 1 rfl) ?_
  refine lv_imul hx hb dX0_useBest_10 ?_
  obtain ⟨x3, ex3, hF⟩ := ltt_some hF
  refine lv_topi (fun zx3 ezx3 => ?_)
  obtain rfl : x3 = zx3 := ex3.trans ezx3.symm
  refine lv_iconst (v := (1 : Int32)) hx hb dX0_useBest_11 (by decide) ?_
  refine lv_iadd hx hb dX0_useBest_12 ?_
  obtain ⟨x4, ex4, hF⟩ := ltt_some hF
  refine lv_topi (fun zx4 ezx4 => ?_)
  obtain rfl : x4 = zx4 := ex4.trans ezx4.symm
  refine lv_iload_n hx hb dX0_useBest_13 rfl (lv_at hl 3 rfl) ?_
  obtain ⟨b5, ho5, hc5, hk5, hF⟩ := dr_some hF
  refine W_st (st' := [.int p2, .int x4, .ref (ad b5)]) (by rw [va_some ho5]) ?_
  obtain ⟨hvc, hF⟩ := chk_some hF
  refine va_iast hx hb hK hP hD hS b5 1 (wld_i ct ad G M hc5 hk5) rfl hvc dX0_useBest_14 (fun H locs hP hD hS => ?_)
  obtain ⟨M6, eM6, hF⟩ := ltt_some hF
  rw [set_i ct ad G M hc5 hk5, ← eM6] at hP hD
  refine lv_iload_n hx hb dX0_useBest_15 rfl (lv_at hl 2 rfl) ?_
  refine lv_iconst (v := (1 : Int32)) hx hb dX0_useBest_16 (by decide) ?_
  refine lv_icmp_ne (tgt := 36) hx hb dX0_useBest_17 (by decide) (fun c7 => ?_) (fun c7 => ?_)
  · rw [if_neg c7] at hF
    refine lv_aload_n hx hb dX0_useBest_36 rfl (lv_at hl 0 rfl) ?_
    refine va_get (D := D) (ci := 0) (v := va_re ad (M6.2 a 3)) (C := RX0) (T := TX0) (N := 21) hx hb hts (by decide +kernel) hown hK hP a (wld_o ct ad G M6 hc hk (by decide)) rfl 3 (by decide) (hts (.fieldLink RX0 36 "VideoSuite$Coder" "work" "LVideoSuite$Work;") (by decide +kernel)) (fun _ h9 => h9) rfl dX0_useBest_37 ?_
    refine lv_iload_n hx hb dX0_useBest_40 rfl (lv_at hl 2 rfl) ?_
    refine lv_iload_n hx hb dX0_useBest_41 rfl (lv_at hl 3 rfl) ?_
    obtain ⟨b8, ho8, hc8, hk8, hF⟩ := dr_some hF
    refine W_st (st' := [.int p2, .int p1, .ref (ad b8)]) (by rw [va_some ho8]) ?_
    obtain ⟨y9, hy9, hF⟩ := bnd_some hF
    have hf9 := wA_in hD hA9 hS
    refine va_callv (va_runV (As := [.int p1, .int p2]) (rest := []) ⟨hx, hb, hml, hown, hts⟩ (kX9_plan l D ct ad Z G M6 H.size b8 p1 p2 y9 hc8 hk8 hy9) (cwV 2 hts gX0_useBest_X9_plan rfl rfl rfl (by decide +kernel) ⟨Nat.le_of_ble_eq_true rfl, Nat.le_of_ble_eq_true rfl⟩) ⟨fun a U g mk q => by obtain ⟨q0, q1, qP, qK, qD, qZ, qN⟩ := q; exact ⟨q0, q1, qP, va_K.moved (u := U) (U := U.calling g mk a) (Vm.Alike.refl U.vm) qK, qD, sF.moved (u := U) (U := U.calling g mk a) (Vm.Alike.refl U.vm) qZ, nF.same rfl qN⟩, va_recv hK hP (ci := 9) (q0 := b8) rfl (wld_o ct ad G M6 hc8 hk8 (by decide)), fun U hU hW => ⟨rfl, by rw [hU], by rw [hU]; exact hP, va_K.moved hW.alike hK, hD.weaken (fun _ _ _ _ => trivial), by rw [hU]; exact ((hZ.kept hS.2.1).narrow hf9).moved hW.alike, hN.warm hW⟩⟩ rfl rfl hl.1 rfl (lv_room (Nat.le_of_ble_eq_true rfl)) dX0_useBest_42 ⟨(Nat.zero_le _), (Nat.zero_le _)⟩) hS (fun q _ h => hf9 q h) hf9 (fun u t H locs ht hvm hw hB hz1 hk1 hS => ?_)
    obtain ⟨hP, hK9, hD9⟩ := hB
    rw [ht] at hP
    have hD := hD9.weaken (fun _ q _ h => hf9 q.1 h)
    refine lv_iconst (v := (0 : Int32)) hx hb dX0_useBest_45 (by decide) ?_
    refine lv_istore (lv' := [(4, .int (0 : Int32)), (0, .ref (ad a)), (1, .int p0), (2, .int p1), (3, .int p2)]) hx hb dX0_useBest_46 hl (by decide) rfl (fun ls hl => ?_)
    obtain ⟨y10, hy10, hF⟩ := bnd_some hF
    have K10 : ∀ (H : Heap) (locs : List Loc) (ls : Array Slot), va_P D classes (wld ct ad G y10.2) H → va_D A (wld ct ad G y10.2) → va_S A s.heap H locs → lv_has ls 5 [(4, .int y10.1), (0, .ref (ad a)), (1, .int p0), (2, .int p1), (3, .int p2)] → W p l e (headSpec wsX0_useBest ({ frames := 4, cells := 0, slots := 0, locals := 109 })).room s m ([.ref (ad a), .int p0, .int p1, .int p2] : List Value).toArray below meth c H locs 0 0 (MQ below (va_Qv (fun (_ : Unit) => True) (fun _ t => kE D ct ad G A y t) A) ([.ref (ad a), .int p0, .int p1, .int p2] : List Value).toArray s 0 0 A) (F0 m 155 ls []) := by
      intro H locs ls hP hD hS hl
      obtain rfl := Option.some.inj hF
      exact W.vret hx hb hr (fun t ht hW => ⟨⟨(), rfl, trivial, ⟨by rw [ht]; exact hP, va_K.moved hW.alike hK, hD⟩⟩, hS.F ht⟩) hS.2.2 dX0_useBest_155
    clear hF
    refine itr_rule (fun (s11 : Int32 × DD) => ∀ (H : Heap) (locs : List Loc) (ls : Array Slot), va_P D classes (wld ct ad G s11.2) H → va_D A (wld ct ad G s11.2) → va_S A s.heap H locs → lv_has ls 5 [(4, .int s11.1), (0, .ref (ad a)), (1, .int p0), (2, .int p1), (3, .int p2)] → W p l e (headSpec wsX0_useBest ({ frames := 4, cells := 0, slots := 0, locals := 109 })).room s m ([.ref (ad a), .int p0, .int p1, .int p2] : List Value).toArray below meth c H locs 0 0 (MQ below (va_Qv (fun (_ : Unit) => True) (fun _ t => kE D ct ad G A y t) A) ([.ref (ad a), .int p0, .int p1, .int p2] : List Value).toArray s 0 0 A) (F0 m 48 ls [])) ?_ _ _ hy10 _ _ _ hP hD hS (lv_sub hl [0, 1, 2, 3, 4] rfl)
    rintro s11 ⟨z13, hF, hwz13⟩ H locs ls hP hD hS hl
    try dsimp only at hF
    refine lv_iload hx hb dX0_useBest_48 (lv_at hl 0 rfl) ?_
    refine lv_iconst (v := (2 : Int32)) hx hb dX0_useBest_50 (by decide) ?_
    refine lv_icmp_ge (tgt := 155) hx hb dX0_useBest_51 (by decide) (fun c14 => ?_) (fun c14 => ?_)
    · rw [if_pos c14] at hF
      obtain rfl := Option.some.inj hF
      subst hwz13
      exact K10 _ _ _ hP hD hS (lv_sub hl [0, 1, 2, 3, 4] rfl)
    · rw [if_neg c14] at hF
      refine lv_aload_n hx hb dX0_useBest_54 rfl (lv_at hl 1 rfl) ?_
      refine va_get (D := D) (ci := 0) (v := va_re ad (s11.2.2 a 3)) (C := RX0) (T := TX0) (N := 21) hx hb hts (by decide +kernel) hown hK hP a (wld_o ct ad G s11.2 hc hk (by decide)) rfl 3 (by decide) (hts (.fieldLink RX0 36 "VideoSuite$Coder" "work" "LVideoSuite$Work;") (by decide +kernel)) (fun _ h9 => h9) rfl dX0_useBest_55 ?_
      obtain ⟨b15, ho15, hc15, hk15, hF⟩ := dr_some hF
      refine W_st (st' := [.ref (ad b15)]) (by rw [va_some ho15]) ?_
      refine va_get (D := D) (ci := 9) (v := va_re ad (s11.2.2 b15 13)) (C := RX9) (T := TX9) (N := 20) hx hb hts (by decide +kernel) hown hK hP b15 (wld_o ct ad G s11.2 hc15 hk15 (by decide)) rfl 13 (by decide) (hts (.fieldLink RX0 403 "VideoSuite$Work" "part" "[I") (by decide +kernel)) (fun _ h9 => h9) rfl dX0_useBest_58 ?_
      refine lv_iconst (v := (3 : Int32)) hx hb dX0_useBest_61 (by decide) ?_
      obtain ⟨b16, ho16, hc16, hk16, hF⟩ := dr_some hF
      refine W_st (st' := [.int (3 : Int32), .ref (ad b16)]) (by rw [va_some ho16]) ?_
      obtain ⟨hvc, hF⟩ := chk_some hF
      refine va_iald hx hb hK hP b16 1 (wld_i ct ad G s11.2 hc16 hk16) rfl hvc dX0_useBest_62 ?_
      obtain ⟨x17, ex17, hF⟩ := ltt_some hF
      refine lv_topi (fun zx17 ezx17 => ?_)
      obtain rfl : x17 = zx17 := ex17.trans ezx17.symm
      refine lv_iload hx hb dX0_useBest_63 (lv_at hl 0 rfl) ?_
      refine lv_ishr hx hb dX0_useBest_65 ?_
      obtain ⟨x18, ex18, hF⟩ := ltt_some hF
      refine lv_topi (fun zx18 ezx18 => ?_)
      obtain rfl : x18 = zx18 := ex18.trans ezx18.symm
      refine lv_iconst (v := (1 : Int32)) hx hb dX0_useBest_66 (by decide) ?_
      refine lv_iand hx hb dX0_useBest_67 ?_
      obtain ⟨x19, ex19, hF⟩ := ltt_some hF
      refine lv_topi (fun zx19 ezx19 => ?_)
      obtain rfl : x19 = zx19 := ex19.trans ezx19.symm
      refine lv_iconst (v := (1 : Int32)) hx hb dX0_useBest_68 (by decide) ?_
      obtain ⟨y20, hy20, hF⟩ := bnd_some hF
      have J20 : ∀ (H : Heap) (locs : List Loc) (ls : Array Slot), va_P D classes (wld ct ad G y20) H → va_D A (wld ct ad G y20) → va_S A s.heap H locs → lv_has ls 5 [(4, .int s11.1), (0, .ref (ad a)), (1, .int p0), (2, .int p1), (3, .int p2)] → W p l e (headSpec wsX0_useBest ({ frames := 4, cells := 0, slots := 0, locals := 109 })).room s m ([.ref (ad a), .int p0, .int p1, .int p2] : List Value).toArray below meth c H locs 0 0 (MQ below (va_Qv (fun (_ : Unit) => True) (fun _ t => kE D ct ad G A y t) A) ([.ref (ad a), .int p0, .int p1, .int p2] : List Value).toArray s 0 0 A) (F0 m 149 ls []) := by
        intro H locs ls hP hD hS hl
        obtain ⟨x21, ex21, hF⟩ := ltt_some hF
        refine lv_iinc (v := x21) (lv' := [(4, .int x21), (0, .ref (ad a)), (1, .int p0), (2, .int p1), (3, .int p2)]) hx hb dX0_useBest_149 hl (k := 0) rfl (by rw [ex21]; rfl) (by decide) rfl (fun ls hl => ?_)
        refine lv_goto (tgt := 48) hx hb dX0_useBest_152 (by decide) ?_
        obtain rfl := Option.some.inj hF
        exact hwz13 _ _ _ hP hD hS (lv_sub hl [0, 1, 2, 3, 4] rfl)
      clear hF
      have hF := hy20
      clear hy20
      refine lv_icmp_ne (tgt := 149) hx hb dX0_useBest_69 (by decide) (fun c22 => ?_) (fun c22 => ?_)
      · rw [if_neg c22] at hF
        obtain rfl := Option.some.inj hF
        exact J20 _ _ _ hP hD hS (lv_sub hl [0, 1, 2, 3, 4] rfl)
      · rw [if_pos c22] at hF
        refine lv_aload_n hx hb dX0_useBest_72 rfl (lv_at hl 1 rfl) ?_
        refine va_get (D := D) (ci := 0) (v := va_re ad (s11.2.2 a 3)) (C := RX0) (T := TX0) (N := 21) hx hb hts (by decide +kernel) hown hK hP a (wld_o ct ad G s11.2 hc hk (by decide)) rfl 3 (by decide) (hts (.fieldLink RX0 36 "VideoSuite$Coder" "work" "LVideoSuite$Work;") (by decide +kernel)) (fun _ h9 => h9) rfl dX0_useBest_73 ?_
        refine lv_iload_n hx hb dX0_useBest_76 rfl (lv_at hl 2 rfl) ?_
        refine lv_iload hx hb dX0_useBest_77 (lv_at hl 0 rfl) ?_
        refine lv_aload_n hx hb dX0_useBest_79 rfl (lv_at hl 1 rfl) ?_
        refine va_get (D := D) (ci := 0) (v := va_re ad (s11.2.2 a 20)) (C := RX0) (T := TX0) (N := 21) hx hb hts (by decide +kernel) hown hK hP a (wld_o ct ad G s11.2 hc hk (by decide)) rfl 20 (by decide) (hts (.fieldLink RX0 75 "VideoSuite$Coder" "choice" "[I") (by decide +kernel)) (fun _ h9 => h9) rfl dX0_useBest_80 ?_
        refine lv_iconst (v := (5 : Int32)) hx hb dX0_useBest_83 (by decide) ?_
        refine lv_iload hx hb dX0_useBest_84 (lv_at hl 0 rfl) ?_
        refine lv_imul hx hb dX0_useBest_86 ?_
        obtain ⟨x23, ex23, hF⟩ := ltt_some hF
        refine lv_topi (fun zx23 ezx23 => ?_)
        obtain rfl : x23 = zx23 := ex23.trans ezx23.symm
        refine lv_iconst (v := (1 : Int32)) hx hb dX0_useBest_87 (by decide) ?_
        refine lv_iadd hx hb dX0_useBest_88 ?_
        obtain ⟨x24, ex24, hF⟩ := ltt_some hF
        refine lv_topi (fun zx24 ezx24 => ?_)
        obtain rfl : x24 = zx24 := ex24.trans ezx24.symm
        obtain ⟨b25, ho25, hc25, hk25, hF⟩ := dr_some hF
        refine W_st (st' := [.int x24, .ref (ad b25), .int s11.1, .int p0, va_re ad (s11.2.2 a 3)]) (by rw [va_some ho25]) ?_
        obtain ⟨hvc, hF⟩ := chk_some hF
        refine va_iald hx hb hK hP b25 1 (wld_i ct ad G s11.2 hc25 hk25) rfl hvc dX0_useBest_89 ?_
        obtain ⟨x26, ex26, hF⟩ := ltt_some hF
        refine lv_topi (fun zx26 ezx26 => ?_)
        obtain rfl : x26 = zx26 := ex26.trans ezx26.symm
        refine lv_iconst (v := (0 : Int32)) hx hb dX0_useBest_90 (by decide) ?_
        refine lv_bipush (v := (16 : Int32)) hx hb dX0_useBest_91 (by decide) ?_
        refine lv_iconst (v := (0 : Int32)) hx hb dX0_useBest_93 (by decide) ?_
        refine W_st (st' := [.int (0 : Int32), .int (16 : Int32), .int (0 : Int32), .int x26, .int s11.1, .int p0, .ref (ad b15)]) (by rw [va_some ho15]) ?_
        obtain ⟨y27, hy27, hF⟩ := bnd_some hF
        have hf9 := wA_in hD hA9 hS
        refine va_callv (va_runV (As := [.int p0, .int s11.1, .int x26, .int (0 : Int32), .int (16 : Int32), .int (0 : Int32)]) (rest := []) ⟨hx, hb, hml, hown, hts⟩ (kX9_guess l D ct ad Z G s11.2 H.size b15 p0 s11.1 x26 ((0 : Int32)) ((16 : Int32)) ((0 : Int32)) y27 hc15 hk15 hy27) (cwV 6 hts gX0_useBest_X9_guess rfl rfl rfl (by decide +kernel) ⟨Nat.le_of_ble_eq_true rfl, Nat.le_of_ble_eq_true rfl⟩) ⟨fun a U g mk q => by obtain ⟨q0, q1, qP, qK, qD, qZ, qN⟩ := q; exact ⟨q0, q1, qP, va_K.moved (u := U) (U := U.calling g mk a) (Vm.Alike.refl U.vm) qK, qD, sF.moved (u := U) (U := U.calling g mk a) (Vm.Alike.refl U.vm) qZ, nF.same rfl qN⟩, va_recv hK hP (ci := 9) (q0 := b15) rfl (wld_o ct ad G s11.2 hc15 hk15 (by decide)), fun U hU hW => ⟨rfl, by rw [hU], by rw [hU]; exact hP, va_K.moved hW.alike hK, hD.weaken (fun _ _ _ _ => trivial), by rw [hU]; exact ((hZ.kept hS.2.1).narrow hf9).moved hW.alike, hN.warm hW⟩⟩ rfl rfl hl.1 rfl (lv_room (Nat.le_of_ble_eq_true rfl)) dX0_useBest_94 ⟨(Nat.zero_le _), (Nat.zero_le _)⟩) hS (fun q _ h => hf9 q h) hf9 (fun u t H locs ht hvm hw hB hz1 hk1 hS => ?_)
        obtain ⟨hP, hK9, hD9⟩ := hB
        rw [ht] at hP
        have hD := hD9.weaken (fun _ q _ h => hf9 q.1 h)
        refine lv_aload_n hx hb dX0_useBest_97 rfl (lv_at hl 1 rfl) ?_
        refine va_get (D := D) (ci := 0) (v := va_re ad (y27.2 a 3)) (C := RX0) (T := TX0) (N := 21) hx hb hts (by decide +kernel) hown hK hP a (wld_o ct ad G y27 hc hk (by decide)) rfl 3 (by decide) (hts (.fieldLink RX0 36 "VideoSuite$Coder" "work" "LVideoSuite$Work;") (by decide +kernel)) (fun _ h9 => h9) rfl dX0_useBest_98 ?_
        refine lv_iload_n hx hb dX0_useBest_101 rfl (lv_at hl 2 rfl) ?_
        refine lv_iload hx hb dX0_useBest_102 (lv_at hl 0 rfl) ?_
        refine lv_iconst (v := (0 : Int32)) hx hb dX0_useBest_104 (by decide) ?_
        refine lv_aload_n hx hb dX0_useBest_105 rfl (lv_at hl 1 rfl) ?_
        refine va_get (D := D) (ci := 0) (v := va_re ad (y27.2 a 20)) (C := RX0) (T := TX0) (N := 21) hx hb hts (by decide +kernel) hown hK hP a (wld_o ct ad G y27 hc hk (by decide)) rfl 20 (by decide) (hts (.fieldLink RX0 75 "VideoSuite$Coder" "choice" "[I") (by decide +kernel)) (fun _ h9 => h9) rfl dX0_useBest_106 ?_
        refine lv_iconst (v := (5 : Int32)) hx hb dX0_useBest_109 (by decide) ?_
        refine lv_iload hx hb dX0_useBest_110 (lv_at hl 0 rfl) ?_
        refine lv_imul hx hb dX0_useBest_112 ?_
        obtain ⟨x28, ex28, hF⟩ := ltt_some hF
        refine lv_topi (fun zx28 ezx28 => ?_)
        obtain rfl : x28 = zx28 := ex28.trans ezx28.symm
        refine lv_iconst (v := (1 : Int32)) hx hb dX0_useBest_113 (by decide) ?_
        refine lv_iadd hx hb dX0_useBest_114 ?_
        obtain ⟨x29, ex29, hF⟩ := ltt_some hF
        refine lv_topi (fun zx29 ezx29 => ?_)
        obtain rfl : x29 = zx29 := ex29.trans ezx29.symm
        obtain ⟨b30, ho30, hc30, hk30, hF⟩ := dr_some hF
        refine W_st (st' := [.int x29, .ref (ad b30), .int (0 : Int32), .int s11.1, .int p0, va_re ad (y27.2 a 3)]) (by rw [va_some ho30]) ?_
        obtain ⟨hvc, hF⟩ := chk_some hF
        refine va_iald hx hb hK hP b30 1 (wld_i ct ad G y27 hc30 hk30) rfl hvc dX0_useBest_115 ?_
        obtain ⟨x31, ex31, hF⟩ := ltt_some hF
        refine lv_topi (fun zx31 ezx31 => ?_)
        obtain rfl : x31 = zx31 := ex31.trans ezx31.symm
        obtain ⟨b32, ho32, hc32, hk32, hF⟩ := dr_some hF
        refine W_st (st' := [.int x31, .int (0 : Int32), .int s11.1, .int p0, .ref (ad b32)]) (by rw [va_some ho32]) ?_
        obtain ⟨y33, hy33, hF⟩ := bnd_some hF
        have hf9 := wA_in hD hA9 hS
        refine va_callv (va_runV (As := [.int p0, .int s11.1, .int (0 : Int32), .int x31]) (rest := []) ⟨hx, hb, hml, hown, hts⟩ (kX9_setReference l D ct ad Z G y27 H.size b32 p0 s11.1 ((0 : Int32)) x31 y33 hc32 hk32 hy33) (cwV 4 hts gX0_useBest_X9_setReference rfl rfl rfl (by decide +kernel) ⟨Nat.le_of_ble_eq_true rfl, Nat.le_of_ble_eq_true rfl⟩) ⟨fun a U g mk q => by obtain ⟨q0, q1, qP, qK, qD, qZ, qN⟩ := q; exact ⟨q0, q1, qP, va_K.moved (u := U) (U := U.calling g mk a) (Vm.Alike.refl U.vm) qK, qD, sF.moved (u := U) (U := U.calling g mk a) (Vm.Alike.refl U.vm) qZ, nF.same rfl qN⟩, va_recv hK hP (ci := 9) (q0 := b32) rfl (wld_o ct ad G y27 hc32 hk32 (by decide)), fun U hU hW => ⟨rfl, by rw [hU], by rw [hU]; exact hP, va_K.moved hW.alike hK, hD.weaken (fun _ _ _ _ => trivial), by rw [hU]; exact ((hZ.kept hS.2.1).narrow hf9).moved hW.alike, hN.warm hW⟩⟩ rfl rfl hl.1 rfl (lv_room (Nat.le_of_ble_eq_true rfl)) dX0_useBest_116 ⟨(Nat.zero_le _), (Nat.zero_le _)⟩) hS (fun q _ h => hf9 q h) hf9 (fun u t H locs ht hvm hw hB hz1 hk1 hS => ?_)
        obtain ⟨hP, hK9, hD9⟩ := hB
        rw [ht] at hP
        have hD := hD9.weaken (fun _ q _ h => hf9 q.1 h)
        refine lv_aload_n hx hb dX0_useBest_119 rfl (lv_at hl 1 rfl) ?_
        refine lv_iload_n hx hb dX0_useBest_120 rfl (lv_at hl 2 rfl) ?_
        refine lv_iload hx hb dX0_useBest_121 (lv_at hl 0 rfl) ?_
        refine lv_iconst (v := (0 : Int32)) hx hb dX0_useBest_123 (by decide) ?_
        refine lv_aload_n hx hb dX0_useBest_124 rfl (lv_at hl 1 rfl) ?_
        refine va_get (D := D) (ci := 0) (v := va_re ad (y33.2 a 20)) (C := RX0) (T := TX0) (N := 21) hx hb hts (by decide +kernel) hown hK hP a (wld_o ct ad G y33 hc hk (by decide)) rfl 20 (by decide) (hts (.fieldLink RX0 75 "VideoSuite$Coder" "choice" "[I") (by decide +kernel)) (fun _ h9 => h9) rfl dX0_useBest_125 ?_
        refine lv_iconst (v := (5 : Int32)) hx hb dX0_useBest_128 (by decide) ?_
        refine lv_iload hx hb dX0_useBest_129 (lv_at hl 0 rfl) ?_
        refine lv_imul hx hb dX0_useBest_131 ?_
        obtain ⟨x34, ex34, hF⟩ := ltt_some hF
        refine lv_topi (fun zx34 ezx34 => ?_)
        obtain rfl : x34 = zx34 := ex34.trans ezx34.symm
        refine lv_iconst (v := (2 : Int32)) hx hb dX0_useBest_132 (by decide) ?_
        refine lv_iadd hx hb dX0_useBest_133 ?_
        obtain ⟨x35, ex35, hF⟩ := ltt_some hF
        refine lv_topi (fun zx35 ezx35 => ?_)
        obtain rfl : x35 = zx35 := ex35.trans ezx35.symm
        obtain ⟨b36, ho36, hc36, hk36, hF⟩ := dr_some hF
        refine W_st (st' := [.int x35, .ref (ad b36), .int (0 : Int32), .int s11.1, .int p0, .ref (ad a)]) (by rw [va_some ho36]) ?_
        obtain ⟨hvc, hF⟩ := chk_some hF
        refine va_iald hx hb hK hP b36 1 (wld_i ct ad G y33 hc36 hk36) rfl hvc dX0_useBest_134 ?_
        obtain ⟨x37, ex37, hF⟩ := ltt_some hF
        refine lv_topi (fun zx37 ezx37 => ?_)
        obtain rfl : x37 = zx37 := ex37.trans ezx37.symm
        refine lv_aload_n hx hb dX0_useBest_135 rfl (lv_at hl 1 rfl) ?_
        refine va_get (D := D) (ci := 0) (v := va_re ad (y33.2 a 20)) (C := RX0) (T := TX0) (N := 21) hx hb hts (by decide +kernel) hown hK hP a (wld_o ct ad G y33 hc hk (by decide)) rfl 20 (by decide) (hts (.fieldLink RX0 75 "VideoSuite$Coder" "choice" "[I") (by decide +kernel)) (fun _ h9 => h9) rfl dX0_useBest_136 ?_
        refine lv_iconst (v := (5 : Int32)) hx hb dX0_useBest_139 (by decide) ?_
        refine lv_iload hx hb dX0_useBest_140 (lv_at hl 0 rfl) ?_
        refine lv_imul hx hb dX0_useBest_142 ?_
        obtain ⟨x38, ex38, hF⟩ := ltt_some hF
        refine lv_topi (fun zx38 ezx38 => ?_)
        obtain rfl : x38 = zx38 := ex38.trans ezx38.symm
        refine lv_iconst (v := (3 : Int32)) hx hb dX0_useBest_143 (by decide) ?_
        refine lv_iadd hx hb dX0_useBest_144 ?_
        obtain ⟨x39, ex39, hF⟩ := ltt_some hF
        refine lv_topi (fun zx39 ezx39 => ?_)
        obtain rfl : x39 = zx39 := ex39.trans ezx39.symm
        refine W_st (st' := [.int x39, .ref (ad b36), .int x37, .int (0 : Int32), .int s11.1, .int p0, .ref (ad a)]) (by rw [va_some ho36]) ?_
        obtain ⟨hvc, hF⟩ := chk_some hF
        refine va_iald hx hb hK hP b36 1 (wld_i ct ad G y33 hc36 hk36) rfl hvc dX0_useBest_145 ?_
        obtain ⟨x40, ex40, hF⟩ := ltt_some hF
        refine lv_topi (fun zx40 ezx40 => ?_)
        obtain rfl : x40 = zx40 := ex40.trans ezx40.symm
        obtain ⟨y41, hy41, hF⟩ := bnd_some hF
        have hf9 := wA_in hD hA9 hS
        refine va_callv (va_runV (As := [.int p0, .int s11.1, .int (0 : Int32), .int x37, .int x40]) (rest := []) ⟨hx, hb, hml, hown, hts⟩ (kX0_setVector l D ct ad Z G y33 H.size a p0 s11.1 ((0 : Int32)) x37 x40 y41 hc hk hy41) (cwV 5 hts gX0_useBest_X0_setVector rfl rfl rfl (by decide +kernel) ⟨Nat.le_of_ble_eq_true rfl, Nat.le_of_ble_eq_true rfl⟩) ⟨fun a U g mk q => by obtain ⟨q0, q1, qP, qK, qD, qZ, qN⟩ := q; exact ⟨q0, q1, qP, va_K.moved (u := U) (U := U.calling g mk a) (Vm.Alike.refl U.vm) qK, qD, sF.moved (u := U) (U := U.calling g mk a) (Vm.Alike.refl U.vm) qZ, nF.same rfl qN⟩, va_recv hK hP (ci := 0) (q0 := a) rfl (wld_o ct ad G y33 hc hk (by decide)), fun U hU hW => ⟨rfl, by rw [hU], by rw [hU]; exact hP, va_K.moved hW.alike hK, hD.weaken (fun _ _ _ _ => trivial), by rw [hU]; exact ((hZ.kept hS.2.1).narrow hf9).moved hW.alike, hN.warm hW⟩⟩ rfl rfl hl.1 rfl (lv_room (Nat.le_of_ble_eq_true rfl)) dX0_useBest_146 ⟨(Nat.zero_le _), (Nat.zero_le _)⟩) hS (fun q _ h => hf9 q h) hf9 (fun u t H locs ht hvm hw hB hz1 hk1 hS => ?_)
        obtain ⟨hP, hK9, hD9⟩ := hB
        rw [ht] at hP
        have hD := hD9.weaken (fun _ q _ h => hf9 q.1 h)
        obtain rfl := Option.some.inj hF
        exact J20 _ _ _ hP hD hS (lv_sub hl [0, 1, 2, 3, 4] rfl)
  · rw [if_pos c7] at hF
    refine lv_iload_n hx hb dX0_useBest_20 rfl (lv_at hl 3 rfl) ?_
    refine lv_if_ne (tgt := 36) hx hb dX0_useBest_21 (by decide) (fun c42 => ?_) (fun c42 => ?_)
    · rw [if_neg c42] at hF
      refine lv_aload_n hx hb dX0_useBest_36 rfl (lv_at hl 0 rfl) ?_
      refine va_get (D := D) (ci := 0) (v := va_re ad (M6.2 a 3)) (C := RX0) (T := TX0) (N := 21) hx hb hts (by decide +kernel) hown hK hP a (wld_o ct ad G M6 hc hk (by decide)) rfl 3 (by decide) (hts (.fieldLink RX0 36 "VideoSuite$Coder" "work" "LVideoSuite$Work;") (by decide +kernel)) (fun _ h9 => h9) rfl dX0_useBest_37 ?_
      refine lv_iload_n hx hb dX0_useBest_40 rfl (lv_at hl 2 rfl) ?_
      refine lv_iload_n hx hb dX0_useBest_41 rfl (lv_at hl 3 rfl) ?_
      obtain ⟨b43, ho43, hc43, hk43, hF⟩ := dr_some hF
      refine W_st (st' := [.int p2, .int p1, .ref (ad b43)]) (by rw [va_some ho43]) ?_
      obtain ⟨y44, hy44, hF⟩ := bnd_some hF
      have hf9 := wA_in hD hA9 hS
      refine va_callv (va_runV (As := [.int p1, .int p2]) (rest := []) ⟨hx, hb, hml, hown, hts⟩ (kX9_plan l D ct ad Z G M6 H.size b43 p1 p2 y44 hc43 hk43 hy44) (cwV 2 hts gX0_useBest_X9_plan rfl rfl rfl (by decide +kernel) ⟨Nat.le_of_ble_eq_true rfl, Nat.le_of_ble_eq_true rfl⟩) ⟨fun a U g mk q => by obtain ⟨q0, q1, qP, qK, qD, qZ, qN⟩ := q; exact ⟨q0, q1, qP, va_K.moved (u := U) (U := U.calling g mk a) (Vm.Alike.refl U.vm) qK, qD, sF.moved (u := U) (U := U.calling g mk a) (Vm.Alike.refl U.vm) qZ, nF.same rfl qN⟩, va_recv hK hP (ci := 9) (q0 := b43) rfl (wld_o ct ad G M6 hc43 hk43 (by decide)), fun U hU hW => ⟨rfl, by rw [hU], by rw [hU]; exact hP, va_K.moved hW.alike hK, hD.weaken (fun _ _ _ _ => trivial), by rw [hU]; exact ((hZ.kept hS.2.1).narrow hf9).moved hW.alike, hN.warm hW⟩⟩ rfl rfl hl.1 rfl (lv_room (Nat.le_of_ble_eq_true rfl)) dX0_useBest_42 ⟨(Nat.zero_le _), (Nat.zero_le _)⟩) hS (fun q _ h => hf9 q h) hf9 (fun u t H locs ht hvm hw hB hz1 hk1 hS => ?_)
      obtain ⟨hP, hK9, hD9⟩ := hB
      rw [ht] at hP
      have hD := hD9.weaken (fun _ q _ h => hf9 q.1 h)
      refine lv_iconst (v := (0 : Int32)) hx hb dX0_useBest_45 (by decide) ?_
      refine lv_istore (lv' := [(4, .int (0 : Int32)), (0, .ref (ad a)), (1, .int p0), (2, .int p1), (3, .int p2)]) hx hb dX0_useBest_46 hl (by decide) rfl (fun ls hl => ?_)
      obtain ⟨y45, hy45, hF⟩ := bnd_some hF
      have K45 : ∀ (H : Heap) (locs : List Loc) (ls : Array Slot), va_P D classes (wld ct ad G y45.2) H → va_D A (wld ct ad G y45.2) → va_S A s.heap H locs → lv_has ls 5 [(4, .int y45.1), (0, .ref (ad a)), (1, .int p0), (2, .int p1), (3, .int p2)] → W p l e (headSpec wsX0_useBest ({ frames := 4, cells := 0, slots := 0, locals := 109 })).room s m ([.ref (ad a), .int p0, .int p1, .int p2] : List Value).toArray below meth c H locs 0 0 (MQ below (va_Qv (fun (_ : Unit) => True) (fun _ t => kE D ct ad G A y t) A) ([.ref (ad a), .int p0, .int p1, .int p2] : List Value).toArray s 0 0 A) (F0 m 155 ls []) := by
        intro H locs ls hP hD hS hl
        obtain rfl := Option.some.inj hF
        exact W.vret hx hb hr (fun t ht hW => ⟨⟨(), rfl, trivial, ⟨by rw [ht]; exact hP, va_K.moved hW.alike hK, hD⟩⟩, hS.F ht⟩) hS.2.2 dX0_useBest_155
      clear hF
      refine itr_rule (fun (s46 : Int32 × DD) => ∀ (H : Heap) (locs : List Loc) (ls : Array Slot), va_P D classes (wld ct ad G s46.2) H → va_D A (wld ct ad G s46.2) → va_S A s.heap H locs → lv_has ls 5 [(4, .int s46.1), (0, .ref (ad a)), (1, .int p0), (2, .int p1), (3, .int p2)] → W p l e (headSpec wsX0_useBest ({ frames := 4, cells := 0, slots := 0, locals := 109 })).room s m ([.ref (ad a), .int p0, .int p1, .int p2] : List Value).toArray below meth c H locs 0 0 (MQ below (va_Qv (fun (_ : Unit) => True) (fun _ t => kE D ct ad G A y t) A) ([.ref (ad a), .int p0, .int p1, .int p2] : List Value).toArray s 0 0 A) (F0 m 48 ls [])) ?_ _ _ hy45 _ _ _ hP hD hS (lv_sub hl [0, 1, 2, 3, 4] rfl)
      rintro s46 ⟨z48, hF, hwz48⟩ H locs ls hP hD hS hl
      try dsimp only at hF
      refine lv_iload hx hb dX0_useBest_48 (lv_at hl 0 rfl) ?_
      refine lv_iconst (v := (2 : Int32)) hx hb dX0_useBest_50 (by decide) ?_
      refine lv_icmp_ge (tgt := 155) hx hb dX0_useBest_51 (by decide) (fun c49 => ?_) (fun c49 => ?_)
      · rw [if_pos c49] at hF
        obtain rfl := Option.some.inj hF
        subst hwz48
        exact K45 _ _ _ hP hD hS (lv_sub hl [0, 1, 2, 3, 4] rfl)
      · rw [if_neg c49] at hF
        refine lv_aload_n hx hb dX0_useBest_54 rfl (lv_at hl 1 rfl) ?_
        refine va_get (D := D) (ci := 0) (v := va_re ad (s46.2.2 a 3)) (C := RX0) (T := TX0) (N := 21) hx hb hts (by decide +kernel) hown hK hP a (wld_o ct ad G s46.2 hc hk (by decide)) rfl 3 (by decide) (hts (.fieldLink RX0 36 "VideoSuite$Coder" "work" "LVideoSuite$Work;") (by decide +kernel)) (fun _ h9 => h9) rfl dX0_useBest_55 ?_
        obtain ⟨b50, ho50, hc50, hk50, hF⟩ := dr_some hF
        refine W_st (st' := [.ref (ad b50)]) (by rw [va_some ho50]) ?_
        refine va_get (D := D) (ci := 9) (v := va_re ad (s46.2.2 b50 13)) (C := RX9) (T := TX9) (N := 20) hx hb hts (by decide +kernel) hown hK hP b50 (wld_o ct ad G s46.2 hc50 hk50 (by decide)) rfl 13 (by decide) (hts (.fieldLink RX0 403 "VideoSuite$Work" "part" "[I") (by decide +kernel)) (fun _ h9 => h9) rfl dX0_useBest_58 ?_
        refine lv_iconst (v := (3 : Int32)) hx hb dX0_useBest_61 (by decide) ?_
        obtain ⟨b51, ho51, hc51, hk51, hF⟩ := dr_some hF
        refine W_st (st' := [.int (3 : Int32), .ref (ad b51)]) (by rw [va_some ho51]) ?_
        obtain ⟨hvc, hF⟩ := chk_some hF
        refine va_iald hx hb hK hP b51 1 (wld_i ct ad G s46.2 hc51 hk51) rfl hvc dX0_useBest_62 ?_
        obtain ⟨x52, ex52, hF⟩ := ltt_some hF
        refine lv_topi (fun zx52 ezx52 => ?_)
        obtain rfl : x52 = zx52 := ex52.trans ezx52.symm
        refine lv_iload hx hb dX0_useBest_63 (lv_at hl 0 rfl) ?_
        refine lv_ishr hx hb dX0_useBest_65 ?_
        obtain ⟨x53, ex53, hF⟩ := ltt_some hF
        refine lv_topi (fun zx53 ezx53 => ?_)
        obtain rfl : x53 = zx53 := ex53.trans ezx53.symm
        refine lv_iconst (v := (1 : Int32)) hx hb dX0_useBest_66 (by decide) ?_
        refine lv_iand hx hb dX0_useBest_67 ?_
        obtain ⟨x54, ex54, hF⟩ := ltt_some hF
        refine lv_topi (fun zx54 ezx54 => ?_)
        obtain rfl : x54 = zx54 := ex54.trans ezx54.symm
        refine lv_iconst (v := (1 : Int32)) hx hb dX0_useBest_68 (by decide) ?_
        obtain ⟨y55, hy55, hF⟩ := bnd_some hF
        have J55 : ∀ (H : Heap) (locs : List Loc) (ls : Array Slot), va_P D classes (wld ct ad G y55) H → va_D A (wld ct ad G y55) → va_S A s.heap H locs → lv_has ls 5 [(4, .int s46.1), (0, .ref (ad a)), (1, .int p0), (2, .int p1), (3, .int p2)] → W p l e (headSpec wsX0_useBest ({ frames := 4, cells := 0, slots := 0, locals := 109 })).room s m ([.ref (ad a), .int p0, .int p1, .int p2] : List Value).toArray below meth c H locs 0 0 (MQ below (va_Qv (fun (_ : Unit) => True) (fun _ t => kE D ct ad G A y t) A) ([.ref (ad a), .int p0, .int p1, .int p2] : List Value).toArray s 0 0 A) (F0 m 149 ls []) := by
          intro H locs ls hP hD hS hl
          obtain ⟨x56, ex56, hF⟩ := ltt_some hF
          refine lv_iinc (v := x56) (lv' := [(4, .int x56), (0, .ref (ad a)), (1, .int p0), (2, .int p1), (3, .int p2)]) hx hb dX0_useBest_149 hl (k := 0) rfl (by rw [ex56]; rfl) (by decide) rfl (fun ls hl => ?_)
          refine lv_goto (tgt := 48) hx hb dX0_useBest_152 (by decide) ?_
          obtain rfl := Option.some.inj hF
          exact hwz48 _ _ _ hP hD hS (lv_sub hl [0, 1, 2, 3, 4] rfl)
        clear hF
        have hF := hy55
        clear hy55
        refine lv_icmp_ne (tgt := 149) hx hb dX0_useBest_69 (by decide) (fun c57 => ?_) (fun c57 => ?_)
        · rw [if_neg c57] at hF
          obtain rfl := Option.some.inj hF
          exact J55 _ _ _ hP hD hS (lv_sub hl [0, 1, 2, 3, 4] rfl)
        · rw [if_pos c57] at hF
          refine lv_aload_n hx hb dX0_useBest_72 rfl (lv_at hl 1 rfl) ?_
          refine va_get (D := D) (ci := 0) (v := va_re ad (s46.2.2 a 3)) (C := RX0) (T := TX0) (N := 21) hx hb hts (by decide +kernel) hown hK hP a (wld_o ct ad G s46.2 hc hk (by decide)) rfl 3 (by decide) (hts (.fieldLink RX0 36 "VideoSuite$Coder" "work" "LVideoSuite$Work;") (by decide +kernel)) (fun _ h9 => h9) rfl dX0_useBest_73 ?_
          refine lv_iload_n hx hb dX0_useBest_76 rfl (lv_at hl 2 rfl) ?_
          refine lv_iload hx hb dX0_useBest_77 (lv_at hl 0 rfl) ?_
          refine lv_aload_n hx hb dX0_useBest_79 rfl (lv_at hl 1 rfl) ?_
          refine va_get (D := D) (ci := 0) (v := va_re ad (s46.2.2 a 20)) (C := RX0) (T := TX0) (N := 21) hx hb hts (by decide +kernel) hown hK hP a (wld_o ct ad G s46.2 hc hk (by decide)) rfl 20 (by decide) (hts (.fieldLink RX0 75 "VideoSuite$Coder" "choice" "[I") (by decide +kernel)) (fun _ h9 => h9) rfl dX0_useBest_80 ?_
          refine lv_iconst (v := (5 : Int32)) hx hb dX0_useBest_83 (by decide) ?_
          refine lv_iload hx hb dX0_useBest_84 (lv_at hl 0 rfl) ?_
          refine lv_imul hx hb dX0_useBest_86 ?_
          obtain ⟨x58, ex58, hF⟩ := ltt_some hF
          refine lv_topi (fun zx58 ezx58 => ?_)
          obtain rfl : x58 = zx58 := ex58.trans ezx58.symm
          refine lv_iconst (v := (1 : Int32)) hx hb dX0_useBest_87 (by decide) ?_
          refine lv_iadd hx hb dX0_useBest_88 ?_
          obtain ⟨x59, ex59, hF⟩ := ltt_some hF
          refine lv_topi (fun zx59 ezx59 => ?_)
          obtain rfl : x59 = zx59 := ex59.trans ezx59.symm
          obtain ⟨b60, ho60, hc60, hk60, hF⟩ := dr_some hF
          refine W_st (st' := [.int x59, .ref (ad b60), .int s46.1, .int p0, va_re ad (s46.2.2 a 3)]) (by rw [va_some ho60]) ?_
          obtain ⟨hvc, hF⟩ := chk_some hF
          refine va_iald hx hb hK hP b60 1 (wld_i ct ad G s46.2 hc60 hk60) rfl hvc dX0_useBest_89 ?_
          obtain ⟨x61, ex61, hF⟩ := ltt_some hF
          refine lv_topi (fun zx61 ezx61 => ?_)
          obtain rfl : x61 = zx61 := ex61.trans ezx61.symm
          refine lv_iconst (v := (0 : Int32)) hx hb dX0_useBest_90 (by decide) ?_
          refine lv_bipush (v := (16 : Int32)) hx hb dX0_useBest_91 (by decide) ?_
          refine lv_iconst (v := (0 : Int32)) hx hb dX0_useBest_93 (by decide) ?_
          refine W_st (st' := [.int (0 : Int32), .int (16 : Int32), .int (0 : Int32), .int x61, .int s46.1, .int p0, .ref (ad b50)]) (by rw [va_some ho50]) ?_
          obtain ⟨y62, hy62, hF⟩ := bnd_some hF
          have hf9 := wA_in hD hA9 hS
          refine va_callv (va_runV (As := [.int p0, .int s46.1, .int x61, .int (0 : Int32), .int (16 : Int32), .int (0 : Int32)]) (rest := []) ⟨hx, hb, hml, hown, hts⟩ (kX9_guess l D ct ad Z G s46.2 H.size b50 p0 s46.1 x61 ((0 : Int32)) ((16 : Int32)) ((0 : Int32)) y62 hc50 hk50 hy62) (cwV 6 hts gX0_useBest_X9_guess rfl rfl rfl (by decide +kernel) ⟨Nat.le_of_ble_eq_true rfl, Nat.le_of_ble_eq_true rfl⟩) ⟨fun a U g mk q => by obtain ⟨q0, q1, qP, qK, qD, qZ, qN⟩ := q; exact ⟨q0, q1, qP, va_K.moved (u := U) (U := U.calling g mk a) (Vm.Alike.refl U.vm) qK, qD, sF.moved (u := U) (U := U.calling g mk a) (Vm.Alike.refl U.vm) qZ, nF.same rfl qN⟩, va_recv hK hP (ci := 9) (q0 := b50) rfl (wld_o ct ad G s46.2 hc50 hk50 (by decide)), fun U hU hW => ⟨rfl, by rw [hU], by rw [hU]; exact hP, va_K.moved hW.alike hK, hD.weaken (fun _ _ _ _ => trivial), by rw [hU]; exact ((hZ.kept hS.2.1).narrow hf9).moved hW.alike, hN.warm hW⟩⟩ rfl rfl hl.1 rfl (lv_room (Nat.le_of_ble_eq_true rfl)) dX0_useBest_94 ⟨(Nat.zero_le _), (Nat.zero_le _)⟩) hS (fun q _ h => hf9 q h) hf9 (fun u t H locs ht hvm hw hB hz1 hk1 hS => ?_)
          obtain ⟨hP, hK9, hD9⟩ := hB
          rw [ht] at hP
          have hD := hD9.weaken (fun _ q _ h => hf9 q.1 h)
          refine lv_aload_n hx hb dX0_useBest_97 rfl (lv_at hl 1 rfl) ?_
          refine va_get (D := D) (ci := 0) (v := va_re ad (y62.2 a 3)) (C := RX0) (T := TX0) (N := 21) hx hb hts (by decide +kernel) hown hK hP a (wld_o ct ad G y62 hc hk (by decide)) rfl 3 (by decide) (hts (.fieldLink RX0 36 "VideoSuite$Coder" "work" "LVideoSuite$Work;") (by decide +kernel)) (fun _ h9 => h9) rfl dX0_useBest_98 ?_
          refine lv_iload_n hx hb dX0_useBest_101 rfl (lv_at hl 2 rfl) ?_
          refine lv_iload hx hb dX0_useBest_102 (lv_at hl 0 rfl) ?_
          refine lv_iconst (v := (0 : Int32)) hx hb dX0_useBest_104 (by decide) ?_
          refine lv_aload_n hx hb dX0_useBest_105 rfl (lv_at hl 1 rfl) ?_
          refine va_get (D := D) (ci := 0) (v := va_re ad (y62.2 a 20)) (C := RX0) (T := TX0) (N := 21) hx hb hts (by decide +kernel) hown hK hP a (wld_o ct ad G y62 hc hk (by decide)) rfl 20 (by decide) (hts (.fieldLink RX0 75 "VideoSuite$Coder" "choice" "[I") (by decide +kernel)) (fun _ h9 => h9) rfl dX0_useBest_106 ?_
          refine lv_iconst (v := (5 : Int32)) hx hb dX0_useBest_109 (by decide) ?_
          refine lv_iload hx hb dX0_useBest_110 (lv_at hl 0 rfl) ?_
          refine lv_imul hx hb dX0_useBest_112 ?_
          obtain ⟨x63, ex63, hF⟩ := ltt_some hF
          refine lv_topi (fun zx63 ezx63 => ?_)
          obtain rfl : x63 = zx63 := ex63.trans ezx63.symm
          refine lv_iconst (v := (1 : Int32)) hx hb dX0_useBest_113 (by decide) ?_
          refine lv_iadd hx hb dX0_useBest_114 ?_
          obtain ⟨x64, ex64, hF⟩ := ltt_some hF
          refine lv_topi (fun zx64 ezx64 => ?_)
          obtain rfl : x64 = zx64 := ex64.trans ezx64.symm
          obtain ⟨b65, ho65, hc65, hk65, hF⟩ := dr_some hF
          refine W_st (st' := [.int x64, .ref (ad b65), .int (0 : Int32), .int s46.1, .int p0, va_re ad (y62.2 a 3)]) (by rw [va_some ho65]) ?_
          obtain ⟨hvc, hF⟩ := chk_some hF
          refine va_iald hx hb hK hP b65 1 (wld_i ct ad G y62 hc65 hk65) rfl hvc dX0_useBest_115 ?_
          obtain ⟨x66, ex66, hF⟩ := ltt_some hF
          refine lv_topi (fun zx66 ezx66 => ?_)
          obtain rfl : x66 = zx66 := ex66.trans ezx66.symm
          obtain ⟨b67, ho67, hc67, hk67, hF⟩ := dr_some hF
          refine W_st (st' := [.int x66, .int (0 : Int32), .int s46.1, .int p0, .ref (ad b67)]) (by rw [va_some ho67]) ?_
          obtain ⟨y68, hy68, hF⟩ := bnd_some hF
          have hf9 := wA_in hD hA9 hS
          refine va_callv (va_runV (As := [.int p0, .int s46.1, .int (0 : Int32), .int x66]) (rest := []) ⟨hx, hb, hml, hown, hts⟩ (kX9_setReference l D ct ad Z G y62 H.size b67 p0 s46.1 ((0 : Int32)) x66 y68 hc67 hk67 hy68) (cwV 4 hts gX0_useBest_X9_setReference rfl rfl rfl (by decide +kernel) ⟨Nat.le_of_ble_eq_true rfl, Nat.le_of_ble_eq_true rfl⟩) ⟨fun a U g mk q => by obtain ⟨q0, q1, qP, qK, qD, qZ, qN⟩ := q; exact ⟨q0, q1, qP, va_K.moved (u := U) (U := U.calling g mk a) (Vm.Alike.refl U.vm) qK, qD, sF.moved (u := U) (U := U.calling g mk a) (Vm.Alike.refl U.vm) qZ, nF.same rfl qN⟩, va_recv hK hP (ci := 9) (q0 := b67) rfl (wld_o ct ad G y62 hc67 hk67 (by decide)), fun U hU hW => ⟨rfl, by rw [hU], by rw [hU]; exact hP, va_K.moved hW.alike hK, hD.weaken (fun _ _ _ _ => trivial), by rw [hU]; exact ((hZ.kept hS.2.1).narrow hf9).moved hW.alike, hN.warm hW⟩⟩ rfl rfl hl.1 rfl (lv_room (Nat.le_of_ble_eq_true rfl)) dX0_useBest_116 ⟨(Nat.zero_le _), (Nat.zero_le _)⟩) hS (fun q _ h => hf9 q h) hf9 (fun u t H locs ht hvm hw hB hz1 hk1 hS => ?_)
          obtain ⟨hP, hK9, hD9⟩ := hB
          rw [ht] at hP
          have hD := hD9.weaken (fun _ q _ h => hf9 q.1 h)
          refine lv_aload_n hx hb dX0_useBest_119 rfl (lv_at hl 1 rfl) ?_
          refine lv_iload_n hx hb dX0_useBest_120 rfl (lv_at hl 2 rfl) ?_
          refine lv_iload hx hb dX0_useBest_121 (lv_at hl 0 rfl) ?_
          refine lv_iconst (v := (0 : Int32)) hx hb dX0_useBest_123 (by decide) ?_
          refine lv_aload_n hx hb dX0_useBest_124 rfl (lv_at hl 1 rfl) ?_
          refine va_get (D := D) (ci := 0) (v := va_re ad (y68.2 a 20)) (C := RX0) (T := TX0) (N := 21) hx hb hts (by decide +kernel) hown hK hP a (wld_o ct ad G y68 hc hk (by decide)) rfl 20 (by decide) (hts (.fieldLink RX0 75 "VideoSuite$Coder" "choice" "[I") (by decide +kernel)) (fun _ h9 => h9) rfl dX0_useBest_125 ?_
          refine lv_iconst (v := (5 : Int32)) hx hb dX0_useBest_128 (by decide) ?_
          refine lv_iload hx hb dX0_useBest_129 (lv_at hl 0 rfl) ?_
          refine lv_imul hx hb dX0_useBest_131 ?_
          obtain ⟨x69, ex69, hF⟩ := ltt_some hF
          refine lv_topi (fun zx69 ezx69 => ?_)
          obtain rfl : x69 = zx69 := ex69.trans ezx69.symm
          refine lv_iconst (v := (2 : Int32)) hx hb dX0_useBest_132 (by decide) ?_
          refine lv_iadd hx hb dX0_useBest_133 ?_
          obtain ⟨x70, ex70, hF⟩ := ltt_some hF
          refine lv_topi (fun zx70 ezx70 => ?_)
          obtain rfl : x70 = zx70 := ex70.trans ezx70.symm
          obtain ⟨b71, ho71, hc71, hk71, hF⟩ := dr_some hF
          refine W_st (st' := [.int x70, .ref (ad b71), .int (0 : Int32), .int s46.1, .int p0, .ref (ad a)]) (by rw [va_some ho71]) ?_
          obtain ⟨hvc, hF⟩ := chk_some hF
          refine va_iald hx hb hK hP b71 1 (wld_i ct ad G y68 hc71 hk71) rfl hvc dX0_useBest_134 ?_
          obtain ⟨x72, ex72, hF⟩ := ltt_some hF
          refine lv_topi (fun zx72 ezx72 => ?_)
          obtain rfl : x72 = zx72 := ex72.trans ezx72.symm
          refine lv_aload_n hx hb dX0_useBest_135 rfl (lv_at hl 1 rfl) ?_
          refine va_get (D := D) (ci := 0) (v := va_re ad (y68.2 a 20)) (C := RX0) (T := TX0) (N := 21) hx hb hts (by decide +kernel) hown hK hP a (wld_o ct ad G y68 hc hk (by decide)) rfl 20 (by decide) (hts (.fieldLink RX0 75 "VideoSuite$Coder" "choice" "[I") (by decide +kernel)) (fun _ h9 => h9) rfl dX0_useBest_136 ?_
          refine lv_iconst (v := (5 : Int32)) hx hb dX0_useBest_139 (by decide) ?_
          refine lv_iload hx hb dX0_useBest_140 (lv_at hl 0 rfl) ?_
          refine lv_imul hx hb dX0_useBest_142 ?_
          obtain ⟨x73, ex73, hF⟩ := ltt_some hF
          refine lv_topi (fun zx73 ezx73 => ?_)
          obtain rfl : x73 = zx73 := ex73.trans ezx73.symm
          refine lv_iconst (v := (3 : Int32)) hx hb dX0_useBest_143 (by decide) ?_
          refine lv_iadd hx hb dX0_useBest_144 ?_
          obtain ⟨x74, ex74, hF⟩ := ltt_some hF
          refine lv_topi (fun zx74 ezx74 => ?_)
          obtain rfl : x74 = zx74 := ex74.trans ezx74.symm
          refine W_st (st' := [.int x74, .ref (ad b71), .int x72, .int (0 : Int32), .int s46.1, .int p0, .ref (ad a)]) (by rw [va_some ho71]) ?_
          obtain ⟨hvc, hF⟩ := chk_some hF
          refine va_iald hx hb hK hP b71 1 (wld_i ct ad G y68 hc71 hk71) rfl hvc dX0_useBest_145 ?_
          obtain ⟨x75, ex75, hF⟩ := ltt_some hF
          refine lv_topi (fun zx75 ezx75 => ?_)
          obtain rfl : x75 = zx75 := ex75.trans ezx75.symm
          obtain ⟨y76, hy76, hF⟩ := bnd_some hF
          have hf9 := wA_in hD hA9 hS
          refine va_callv (va_runV (As := [.int p0, .int s46.1, .int (0 : Int32), .int x72, .int x75]) (rest := []) ⟨hx, hb, hml, hown, hts⟩ (kX0_setVector l D ct ad Z G y68 H.size a p0 s46.1 ((0 : Int32)) x72 x75 y76 hc hk hy76) (cwV 5 hts gX0_useBest_X0_setVector rfl rfl rfl (by decide +kernel) ⟨Nat.le_of_ble_eq_true rfl, Nat.le_of_ble_eq_true rfl⟩) ⟨fun a U g mk q => by obtain ⟨q0, q1, qP, qK, qD, qZ, qN⟩ := q; exact ⟨q0, q1, qP, va_K.moved (u := U) (U := U.calling g mk a) (Vm.Alike.refl U.vm) qK, qD, sF.moved (u := U) (U := U.calling g mk a) (Vm.Alike.refl U.vm) qZ, nF.same rfl qN⟩, va_recv hK hP (ci := 0) (q0 := a) rfl (wld_o ct ad G y68 hc hk (by decide)), fun U hU hW => ⟨rfl, by rw [hU], by rw [hU]; exact hP, va_K.moved hW.alike hK, hD.weaken (fun _ _ _ _ => trivial), by rw [hU]; exact ((hZ.kept hS.2.1).narrow hf9).moved hW.alike, hN.warm hW⟩⟩ rfl rfl hl.1 rfl (lv_room (Nat.le_of_ble_eq_true rfl)) dX0_useBest_146 ⟨(Nat.zero_le _), (Nat.zero_le _)⟩) hS (fun q _ h => hf9 q h) hf9 (fun u t H locs ht hvm hw hB hz1 hk1 hS => ?_)
          obtain ⟨hP, hK9, hD9⟩ := hB
          rw [ht] at hP
          have hD := hD9.weaken (fun _ q _ h => hf9 q.1 h)
          obtain rfl := Option.some.inj hF
          exact J55 _ _ _ hP hD hS (lv_sub hl [0, 1, 2, 3, 4] rfl)
    · rw [if_pos c42] at hF
      refine lv_aload_n hx hb dX0_useBest_24 rfl (lv_at hl 0 rfl) ?_
      refine va_get (D := D) (ci := 0) (v := va_re ad (M6.2 a 3)) (C := RX0) (T := TX0) (N := 21) hx hb hts (by decide +kernel) hown hK hP a (wld_o ct ad G M6 hc hk (by decide)) rfl 3 (by decide) (hts (.fieldLink RX0 36 "VideoSuite$Coder" "work" "LVideoSuite$Work;") (by decide +kernel)) (fun _ h9 => h9) rfl dX0_useBest_25 ?_
      refine lv_iload_n hx hb dX0_useBest_28 rfl (lv_at hl 1 rfl) ?_
      refine lv_bipush (v := (15 : Int32)) hx hb dX0_useBest_29 (by decide) ?_
      obtain ⟨b77, ho77, hc77, hk77, hF⟩ := dr_some hF
      refine W_st (st' := [.int (15 : Int32), .int p0, .ref (ad b77)]) (by rw [va_some ho77]) ?_
      obtain ⟨y78, hy78, hF⟩ := bnd_some hF
      have hf9 := wA_in hD hA9 hS
      refine va_calli (va_runV (As := [.int p0, .int (15 : Int32)]) (rest := []) ⟨hx, hb, hml, hown, hts⟩ (kX9_direct l D ct ad Z G M6 H.size b77 p0 ((15 : Int32)) y78 hc77 hk77 hy78) (cwV 2 hts gX0_useBest_X9_direct rfl rfl rfl (by decide +kernel) ⟨Nat.le_of_ble_eq_true rfl, Nat.le_of_ble_eq_true rfl⟩) ⟨fun a U g mk q => by obtain ⟨q0, q1, qP, qK, qD, qZ, qN⟩ := q; exact ⟨q0, q1, qP, va_K.moved (u := U) (U := U.calling g mk a) (Vm.Alike.refl U.vm) qK, qD, sF.moved (u := U) (U := U.calling g mk a) (Vm.Alike.refl U.vm) qZ, nF.same rfl qN⟩, va_recv hK hP (ci := 9) (q0 := b77) rfl (wld_o ct ad G M6 hc77 hk77 (by decide)), fun U hU hW => ⟨rfl, by rw [hU], by rw [hU]; exact hP, va_K.moved hW.alike hK, hD.weaken (fun _ _ _ _ => trivial), by rw [hU]; exact ((hZ.kept hS.2.1).narrow hf9).moved hW.alike, hN.warm hW⟩⟩ rfl rfl hl.1 rfl (lv_room (Nat.le_of_ble_eq_true rfl)) dX0_useBest_31 ⟨(Nat.zero_le _), (Nat.zero_le _)⟩) hS (fun q _ h => hf9 q h) hf9 (fun r u t H locs ht hvm hw hB hz1 hk1 hS => ?_)
      obtain ⟨hP, hK9, hD9⟩ := hB
      rw [ht] at hP
      try dsimp only at hw
      subst hw
      have hD := hD9.weaken (fun _ q _ h => hf9 q.1 h)
      refine lv_pop hx hb dX0_useBest_34 rfl ?_
      obtain rfl := Option.some.inj hF
      exact W.vret hx hb hr (fun t ht hW => ⟨⟨(), rfl, trivial, ⟨by rw [ht]; exact hP, va_K.moved hW.alike hK, hD⟩⟩, hS.F ht⟩) hS.2.2 dX0_useBest_35
