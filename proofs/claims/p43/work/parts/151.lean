theorem ggX0_writeHeader_X10_ue : GoodIn wsX0_writeHeader wsX10_ue := goodIn_r _ [11, 12, 13, 10, 14, 15, 16, 17, 18, 19, 20, 21, 22, 23, 24, 25, 26, 27, 28, 29, 30, 31, 32, 33, 34, 35, 36, 37, 38, 39, 40, 41, 42, 43, 44, 45, 46, 47, 48, 49, 50, 51, 52, 53, 54, 55, 56, 57, 161, 162, 163, 164, 165, 166, 167, 168, 169, 170, 171, 172, 173, 174, 175, 176, 177, 178, 179, 180] (by decide +kernel) (by decide +kernel)
set_option maxRecDepth 20000 in
theorem gX0_writeHeader_X10_ue : GoodIn wsX0_writeHeader (wsV RX0 162 RX10 yX10_ue wsX10_ue) := goodIn_app (goodIn_of _ (by decide +kernel)) ggX0_writeHeader_X10_ue
set_option maxRecDepth 20000 in
theorem ggX0_writeHeader_X10_code : GoodIn wsX0_writeHeader wsX10_code := goodIn_r _ [18, 19, 20, 21, 22, 23, 24, 25, 26, 27, 10, 28, 29, 30, 31, 32, 33, 34, 35, 36, 37, 38, 39, 40, 41, 42, 43, 44, 45, 46, 47, 48, 49, 50, 51, 52, 53, 54, 55, 56, 57, 161, 162, 163, 164, 165, 166, 167, 168, 169, 170, 171, 172, 173, 174, 175, 176, 177, 178, 179, 180] (by decide +kernel) (by decide +kernel)
set_option maxRecDepth 20000 in
theorem gX0_writeHeader_X10_code : GoodIn wsX0_writeHeader (wsV RX0 150 RX10 yX10_code wsX10_code) := goodIn_app (goodIn_of _ (by decide +kernel)) ggX0_writeHeader_X10_code
set_option maxRecDepth 20000 in
theorem ggX0_writeHeader_X3_isOwn : GoodIn wsX0_writeHeader wsX3_isOwn := goodIn_r _ [63, 64, 157, 158, 159, 160] (by decide +kernel) (by decide +kernel)
set_option maxRecDepth 20000 in
theorem gX0_writeHeader_X3_isOwn : GoodIn wsX0_writeHeader (wsV RX0 312 RX3 yX3_isOwn wsX3_isOwn) := goodIn_app (goodIn_of _ (by decide +kernel)) ggX0_writeHeader_X3_isOwn
set_option maxRecDepth 20000 in
theorem ggX0_writeHeader_X10_se : GoodIn wsX0_writeHeader wsX10_se := goodIn_r _ [97, 98, 99, 10, 100, 12, 13, 14, 15, 16, 17, 18, 19, 20, 21, 22, 23, 24, 25, 26, 27, 28, 29, 30, 31, 32, 33, 34, 35, 36, 37, 38, 39, 40, 41, 42, 43, 44, 45, 46, 47, 48, 49, 50, 51, 52, 53, 54, 55, 56, 57, 161, 162, 163, 164, 165, 166, 167, 168, 169, 170, 171, 172, 173, 174, 175, 176, 177, 178, 179, 180] (by decide +kernel) (by decide +kernel)
set_option maxRecDepth 20000 in
theorem gX0_writeHeader_X10_se : GoodIn wsX0_writeHeader (wsV RX0 169 RX10 yX10_se wsX10_se) := goodIn_app (goodIn_of _ (by decide +kernel)) ggX0_writeHeader_X10_se
set_option maxRecDepth 20000 in
theorem ggX0_writeHeader_X10_beginData : GoodIn wsX0_writeHeader wsX10_beginData := goodIn_r _ [104, 20, 105, 106, 107, 10, 108, 32, 25, 26, 27, 28, 29, 30, 31, 33, 34, 35, 36, 37, 38, 39, 40, 41, 42, 43, 44, 45, 46, 47, 48, 49, 50, 51, 52, 53, 109, 110, 111, 112, 113, 114, 115, 23, 22, 19, 161, 162, 163, 164, 165, 166, 167, 168, 169, 170, 171, 172, 173, 174, 175, 176, 177, 178, 179, 180] (by decide +kernel) (by decide +kernel)
set_option maxRecDepth 20000 in
theorem gX0_writeHeader_X10_beginData : GoodIn wsX0_writeHeader (wsV RX0 322 RX10 yX10_beginData wsX10_beginData) := goodIn_app (goodIn_of _ (by decide +kernel)) ggX0_writeHeader_X10_beginData
theorem ggX0_writeHeader_X0_flag : GoodIn wsX0_writeHeader wsX0_flag := goodIn_r _ [73, 4, 58, 16, 17, 10, 18, 19, 20, 21, 22, 23, 24, 25, 26, 27, 28, 29, 30, 31, 32, 33, 34, 35, 36, 37, 38, 39, 40, 41, 42, 43, 44, 45, 46, 47, 48, 49, 50, 51, 52, 53, 54, 55, 56, 57, 116, 117, 118, 119, 120, 121, 122, 123, 124, 125, 126, 127, 128, 129, 130, 131, 132, 133, 134, 135, 136, 161, 162, 163, 164, 165, 166, 167, 168, 169, 170, 171, 172, 173, 174, 175, 176, 177, 178, 179, 180] (by decide +kernel) (by decide +kernel)
set_option maxRecDepth 20000 in
theorem gX0_writeHeader_X0_flag : GoodIn wsX0_writeHeader (wsV RX0 166 RX0 yX0_flag wsX0_flag) := goodIn_app (goodIn_of _ (by decide +kernel)) ggX0_writeHeader_X0_flag
set_option maxRecDepth 20000 in
theorem ggX0_writeHeader_X0_writeWeights : GoodIn wsX0_writeHeader wsX0_writeWeights := goodIn_r _ [77, 1, 2, 3, 4, 78, 79, 80, 81, 62, 82, 83, 64, 7, 8, 9, 10, 11, 12, 13, 14, 15, 16, 17, 18, 19, 20, 21, 22, 23, 24, 25, 26, 27, 28, 29, 30, 31, 32, 33, 34, 35, 36, 37, 38, 39, 40, 41, 42, 43, 44, 45, 46, 47, 48, 49, 50, 51, 52, 53, 54, 55, 56, 57, 84, 85, 86, 87, 88, 89, 68, 90, 91, 92, 93, 70, 71, 72, 73, 58, 94, 95, 96, 97, 98, 99, 100, 116, 117, 118, 119, 120, 121, 122, 123, 124, 125, 126, 127, 128, 129, 130, 131, 132, 133, 134, 135, 136, 137, 138, 139, 140, 141, 142, 143, 144, 145, 146, 147, 148, 149, 150, 151, 152, 153, 154, 155, 156, 157, 158, 159, 160, 161, 162, 163, 164, 165, 166, 167, 168, 169, 170, 171, 172, 173, 174, 175, 176, 177, 178, 179, 180] (by decide +kernel) (by decide +kernel)
set_option maxRecDepth 20000 in
theorem gX0_writeHeader_X0_writeWeights : GoodIn wsX0_writeHeader (wsV RX0 319 RX0 yX0_writeWeights wsX0_writeWeights) := goodIn_app (goodIn_of _ (by decide +kernel)) ggX0_writeHeader_X0_writeWeights
set_option maxRecDepth 20000 in
theorem ggX0_writeHeader_X0_writeLists : GoodIn wsX0_writeHeader wsX0_writeLists := goodIn_r _ [69, 1, 2, 3, 5, 4, 70, 71, 72, 68, 73, 58, 16, 17, 10, 18, 19, 20, 21, 22, 23, 24, 25, 26, 27, 28, 29, 30, 31, 32, 33, 34, 35, 36, 37, 38, 39, 40, 41, 42, 43, 44, 45, 46, 47, 48, 49, 50, 51, 52, 53, 54, 55, 56, 57, 7, 8, 9, 11, 12, 13, 14, 15, 116, 117, 118, 119, 120, 121, 122, 123, 124, 125, 126, 127, 128, 129, 130, 131, 132, 133, 134, 135, 136, 137, 138, 139, 140, 141, 142, 143, 144, 145, 146, 147, 148, 149, 150, 151, 152, 153, 154, 155, 156, 157, 158, 159, 160, 161, 162, 163, 164, 165, 166, 167, 168, 169, 170, 171, 172, 173, 174, 175, 176, 177, 178, 179, 180] (by decide +kernel) (by decide +kernel)
set_option maxRecDepth 20000 in
theorem gX0_writeHeader_X0_writeLists : GoodIn wsX0_writeHeader (wsV RX0 316 RX0 yX0_writeLists wsX0_writeLists) := goodIn_app (goodIn_of _ (by decide +kernel)) ggX0_writeHeader_X0_writeLists
set_option maxRecDepth 20000 in
theorem dX0_writeHeader_0 : decode cX0_writeHeader 0 = .ok (.aload_n 0, 1) := by decide +kernel
theorem dX0_writeHeader_1 : decode cX0_writeHeader 1 = .ok (.getfield 36, 3) := by decide +kernel
theorem dX0_writeHeader_4 : decode cX0_writeHeader 4 = .ok (.getfield 81, 3) := by decide +kernel
theorem dX0_writeHeader_7 : decode cX0_writeHeader 7 = .ok (.getfield 252, 3) := by decide +kernel
theorem dX0_writeHeader_10 : decode cX0_writeHeader 10 = .ok (.astore_n 1, 1) := by decide +kernel
theorem dX0_writeHeader_11 : decode cX0_writeHeader 11 = .ok (.aload_n 0, 1) := by decide +kernel
theorem dX0_writeHeader_12 : decode cX0_writeHeader 12 = .ok (.getfield 29, 3) := by decide +kernel
theorem dX0_writeHeader_15 : decode cX0_writeHeader 15 = .ok (.iconst 0, 1) := by decide +kernel
theorem dX0_writeHeader_16 : decode cX0_writeHeader 16 = .ok (.aload_n 1, 1) := by decide +kernel
theorem dX0_writeHeader_17 : decode cX0_writeHeader 17 = .ok (.iconst 0, 1) := by decide +kernel
theorem dX0_writeHeader_18 : decode cX0_writeHeader 18 = .ok (.iaload, 1) := by decide +kernel
theorem dX0_writeHeader_19 : decode cX0_writeHeader 19 = .ok (.invokevirtual 162, 3) := by decide +kernel
theorem dX0_writeHeader_22 : decode cX0_writeHeader 22 = .ok (.aload_n 0, 1) := by decide +kernel
theorem dX0_writeHeader_23 : decode cX0_writeHeader 23 = .ok (.getfield 29, 3) := by decide +kernel
theorem dX0_writeHeader_26 : decode cX0_writeHeader 26 = .ok (.iconst 0, 1) := by decide +kernel
theorem dX0_writeHeader_27 : decode cX0_writeHeader 27 = .ok (.aload_n 1, 1) := by decide +kernel
theorem dX0_writeHeader_28 : decode cX0_writeHeader 28 = .ok (.iconst 1, 1) := by decide +kernel
theorem dX0_writeHeader_29 : decode cX0_writeHeader 29 = .ok (.iaload, 1) := by decide +kernel
theorem dX0_writeHeader_30 : decode cX0_writeHeader 30 = .ok (.invokevirtual 162, 3) := by decide +kernel
theorem dX0_writeHeader_33 : decode cX0_writeHeader 33 = .ok (.aload_n 0, 1) := by decide +kernel
theorem dX0_writeHeader_34 : decode cX0_writeHeader 34 = .ok (.getfield 29, 3) := by decide +kernel
theorem dX0_writeHeader_37 : decode cX0_writeHeader 37 = .ok (.iconst 0, 1) := by decide +kernel
theorem dX0_writeHeader_38 : decode cX0_writeHeader 38 = .ok (.iconst 0, 1) := by decide +kernel
theorem dX0_writeHeader_39 : decode cX0_writeHeader 39 = .ok (.invokevirtual 162, 3) := by decide +kernel
theorem dX0_writeHeader_42 : decode cX0_writeHeader 42 = .ok (.aload_n 0, 1) := by decide +kernel
theorem dX0_writeHeader_43 : decode cX0_writeHeader 43 = .ok (.getfield 29, 3) := by decide +kernel
theorem dX0_writeHeader_46 : decode cX0_writeHeader 46 = .ok (.iconst 0, 1) := by decide +kernel
theorem dX0_writeHeader_47 : decode cX0_writeHeader 47 = .ok (.aload_n 1, 1) := by decide +kernel
theorem dX0_writeHeader_48 : decode cX0_writeHeader 48 = .ok (.iconst 3, 1) := by decide +kernel
theorem dX0_writeHeader_49 : decode cX0_writeHeader 49 = .ok (.iaload, 1) := by decide +kernel
theorem dX0_writeHeader_50 : decode cX0_writeHeader 50 = .ok (.i2l, 1) := by decide +kernel
theorem dX0_writeHeader_51 : decode cX0_writeHeader 51 = .ok (.bipush 8, 2) := by decide +kernel
theorem dX0_writeHeader_53 : decode cX0_writeHeader 53 = .ok (.invokevirtual 150, 3) := by decide +kernel
theorem dX0_writeHeader_56 : decode cX0_writeHeader 56 = .ok (.aload_n 0, 1) := by decide +kernel
theorem dX0_writeHeader_57 : decode cX0_writeHeader 57 = .ok (.getfield 36, 3) := by decide +kernel
theorem dX0_writeHeader_60 : decode cX0_writeHeader 60 = .ok (.getfield 81, 3) := by decide +kernel
theorem dX0_writeHeader_63 : decode cX0_writeHeader 63 = .ok (.invokevirtual 312, 3) := by decide +kernel
theorem dX0_writeHeader_66 : decode cX0_writeHeader 66 = .ok (.ifCond .eq 14, 3) := by decide +kernel
theorem dX0_writeHeader_69 : decode cX0_writeHeader 69 = .ok (.aload_n 0, 1) := by decide +kernel
theorem dX0_writeHeader_70 : decode cX0_writeHeader 70 = .ok (.getfield 29, 3) := by decide +kernel
theorem dX0_writeHeader_73 : decode cX0_writeHeader 73 = .ok (.iconst 0, 1) := by decide +kernel
theorem dX0_writeHeader_74 : decode cX0_writeHeader 74 = .ok (.aload_n 1, 1) := by decide +kernel
theorem dX0_writeHeader_75 : decode cX0_writeHeader 75 = .ok (.iconst 4, 1) := by decide +kernel
theorem dX0_writeHeader_76 : decode cX0_writeHeader 76 = .ok (.iaload, 1) := by decide +kernel
theorem dX0_writeHeader_77 : decode cX0_writeHeader 77 = .ok (.invokevirtual 162, 3) := by decide +kernel
theorem dX0_writeHeader_80 : decode cX0_writeHeader 80 = .ok (.aload_n 0, 1) := by decide +kernel
theorem dX0_writeHeader_81 : decode cX0_writeHeader 81 = .ok (.getfield 23, 3) := by decide +kernel
theorem dX0_writeHeader_84 : decode cX0_writeHeader 84 = .ok (.bipush 18, 2) := by decide +kernel
theorem dX0_writeHeader_86 : decode cX0_writeHeader 86 = .ok (.iaload, 1) := by decide +kernel
theorem dX0_writeHeader_87 : decode cX0_writeHeader 87 = .ok (.ifCond .ne 17, 3) := by decide +kernel
theorem dX0_writeHeader_90 : decode cX0_writeHeader 90 = .ok (.aload_n 0, 1) := by decide +kernel
theorem dX0_writeHeader_91 : decode cX0_writeHeader 91 = .ok (.getfield 29, 3) := by decide +kernel
theorem dX0_writeHeader_94 : decode cX0_writeHeader 94 = .ok (.iconst 0, 1) := by decide +kernel
theorem dX0_writeHeader_95 : decode cX0_writeHeader 95 = .ok (.aload_n 1, 1) := by decide +kernel
theorem dX0_writeHeader_96 : decode cX0_writeHeader 96 = .ok (.iconst 5, 1) := by decide +kernel
theorem dX0_writeHeader_97 : decode cX0_writeHeader 97 = .ok (.iaload, 1) := by decide +kernel
theorem dX0_writeHeader_98 : decode cX0_writeHeader 98 = .ok (.i2l, 1) := by decide +kernel
theorem dX0_writeHeader_99 : decode cX0_writeHeader 99 = .ok (.bipush 8, 2) := by decide +kernel
theorem dX0_writeHeader_101 : decode cX0_writeHeader 101 = .ok (.invokevirtual 150, 3) := by decide +kernel
theorem dX0_writeHeader_104 : decode cX0_writeHeader 104 = .ok (.aload_n 1, 1) := by decide +kernel
theorem dX0_writeHeader_105 : decode cX0_writeHeader 105 = .ok (.iconst 1, 1) := by decide +kernel
theorem dX0_writeHeader_106 : decode cX0_writeHeader 106 = .ok (.iaload, 1) := by decide +kernel
theorem dX0_writeHeader_107 : decode cX0_writeHeader 107 = .ok (.iconst 2, 1) := by decide +kernel
theorem dX0_writeHeader_108 : decode cX0_writeHeader 108 = .ok (.if_icmp .eq 7, 3) := by decide +kernel
theorem dX0_writeHeader_111 : decode cX0_writeHeader 111 = .ok (.aload_n 0, 1) := by decide +kernel
theorem dX0_writeHeader_112 : decode cX0_writeHeader 112 = .ok (.invokevirtual 316, 3) := by decide +kernel
theorem dX0_writeHeader_115 : decode cX0_writeHeader 115 = .ok (.aload_n 1, 1) := by decide +kernel
theorem dX0_writeHeader_116 : decode cX0_writeHeader 116 = .ok (.iconst 1, 1) := by decide +kernel
theorem dX0_writeHeader_117 : decode cX0_writeHeader 117 = .ok (.iaload, 1) := by decide +kernel
theorem dX0_writeHeader_118 : decode cX0_writeHeader 118 = .ok (.ifCond .ne 18, 3) := by decide +kernel
theorem dX0_writeHeader_121 : decode cX0_writeHeader 121 = .ok (.aload_n 0, 1) := by decide +kernel
theorem dX0_writeHeader_122 : decode cX0_writeHeader 122 = .ok (.getfield 23, 3) := by decide +kernel
theorem dX0_writeHeader_125 : decode cX0_writeHeader 125 = .ok (.bipush 20, 2) := by decide +kernel
theorem dX0_writeHeader_127 : decode cX0_writeHeader 127 = .ok (.iaload, 1) := by decide +kernel
theorem dX0_writeHeader_128 : decode cX0_writeHeader 128 = .ok (.iconst 1, 1) := by decide +kernel
theorem dX0_writeHeader_129 : decode cX0_writeHeader 129 = .ok (.if_icmp .ne 7, 3) := by decide +kernel
theorem dX0_writeHeader_132 : decode cX0_writeHeader 132 = .ok (.aload_n 0, 1) := by decide +kernel
theorem dX0_writeHeader_133 : decode cX0_writeHeader 133 = .ok (.invokevirtual 319, 3) := by decide +kernel
theorem dX0_writeHeader_136 : decode cX0_writeHeader 136 = .ok (.aload_n 1, 1) := by decide +kernel
theorem dX0_writeHeader_137 : decode cX0_writeHeader 137 = .ok (.bipush 11, 2) := by decide +kernel
theorem dX0_writeHeader_139 : decode cX0_writeHeader 139 = .ok (.iaload, 1) := by decide +kernel
theorem dX0_writeHeader_140 : decode cX0_writeHeader 140 = .ok (.ifCond .eq 8, 3) := by decide +kernel
theorem dX0_writeHeader_143 : decode cX0_writeHeader 143 = .ok (.aload_n 0, 1) := by decide +kernel
theorem dX0_writeHeader_144 : decode cX0_writeHeader 144 = .ok (.iconst 0, 1) := by decide +kernel
theorem dX0_writeHeader_145 : decode cX0_writeHeader 145 = .ok (.invokevirtual 166, 3) := by decide +kernel
theorem dX0_writeHeader_148 : decode cX0_writeHeader 148 = .ok (.aload_n 0, 1) := by decide +kernel
theorem dX0_writeHeader_149 : decode cX0_writeHeader 149 = .ok (.getfield 36, 3) := by decide +kernel
theorem dX0_writeHeader_152 : decode cX0_writeHeader 152 = .ok (.getfield 81, 3) := by decide +kernel
theorem dX0_writeHeader_155 : decode cX0_writeHeader 155 = .ok (.invokevirtual 312, 3) := by decide +kernel
theorem dX0_writeHeader_158 : decode cX0_writeHeader 158 = .ok (.ifCond .eq 8, 3) := by decide +kernel
theorem dX0_writeHeader_161 : decode cX0_writeHeader 161 = .ok (.aload_n 0, 1) := by decide +kernel
theorem dX0_writeHeader_162 : decode cX0_writeHeader 162 = .ok (.iconst 0, 1) := by decide +kernel
theorem dX0_writeHeader_163 : decode cX0_writeHeader 163 = .ok (.invokevirtual 166, 3) := by decide +kernel
theorem dX0_writeHeader_166 : decode cX0_writeHeader 166 = .ok (.aload_n 0, 1) := by decide +kernel
theorem dX0_writeHeader_167 : decode cX0_writeHeader 167 = .ok (.getfield 36, 3) := by decide +kernel
theorem dX0_writeHeader_170 : decode cX0_writeHeader 170 = .ok (.getfield 85, 3) := by decide +kernel
theorem dX0_writeHeader_173 : decode cX0_writeHeader 173 = .ok (.iconst 1, 1) := by decide +kernel
theorem dX0_writeHeader_174 : decode cX0_writeHeader 174 = .ok (.iaload, 1) := by decide +kernel
theorem dX0_writeHeader_175 : decode cX0_writeHeader 175 = .ok (.iconst 1, 1) := by decide +kernel
theorem dX0_writeHeader_176 : decode cX0_writeHeader 176 = .ok (.if_icmp .ne 19, 3) := by decide +kernel
theorem dX0_writeHeader_179 : decode cX0_writeHeader 179 = .ok (.aload_n 1, 1) := by decide +kernel
theorem dX0_writeHeader_180 : decode cX0_writeHeader 180 = .ok (.iconst 1, 1) := by decide +kernel
theorem dX0_writeHeader_181 : decode cX0_writeHeader 181 = .ok (.iaload, 1) := by decide +kernel
theorem dX0_writeHeader_182 : decode cX0_writeHeader 182 = .ok (.iconst 2, 1) := by decide +kernel
theorem dX0_writeHeader_183 : decode cX0_writeHeader 183 = .ok (.if_icmp .eq 12, 3) := by decide +kernel
theorem dX0_writeHeader_186 : decode cX0_writeHeader 186 = .ok (.aload_n 0, 1) := by decide +kernel
theorem dX0_writeHeader_187 : decode cX0_writeHeader 187 = .ok (.getfield 29, 3) := by decide +kernel
theorem dX0_writeHeader_190 : decode cX0_writeHeader 190 = .ok (.iconst 0, 1) := by decide +kernel
theorem dX0_writeHeader_191 : decode cX0_writeHeader 191 = .ok (.iconst 0, 1) := by decide +kernel
theorem dX0_writeHeader_192 : decode cX0_writeHeader 192 = .ok (.invokevirtual 162, 3) := by decide +kernel
theorem dX0_writeHeader_195 : decode cX0_writeHeader 195 = .ok (.aload_n 0, 1) := by decide +kernel
theorem dX0_writeHeader_196 : decode cX0_writeHeader 196 = .ok (.getfield 29, 3) := by decide +kernel
theorem dX0_writeHeader_199 : decode cX0_writeHeader 199 = .ok (.iconst 0, 1) := by decide +kernel
theorem dX0_writeHeader_200 : decode cX0_writeHeader 200 = .ok (.aload_n 1, 1) := by decide +kernel
theorem dX0_writeHeader_201 : decode cX0_writeHeader 201 = .ok (.bipush 12, 2) := by decide +kernel
theorem dX0_writeHeader_203 : decode cX0_writeHeader 203 = .ok (.iaload, 1) := by decide +kernel
theorem dX0_writeHeader_204 : decode cX0_writeHeader 204 = .ok (.aload_n 0, 1) := by decide +kernel
theorem dX0_writeHeader_205 : decode cX0_writeHeader 205 = .ok (.getfield 23, 3) := by decide +kernel
theorem dX0_writeHeader_208 : decode cX0_writeHeader 208 = .ok (.iconst 3, 1) := by decide +kernel
theorem dX0_writeHeader_209 : decode cX0_writeHeader 209 = .ok (.iaload, 1) := by decide +kernel
theorem dX0_writeHeader_210 : decode cX0_writeHeader 210 = .ok (.isub, 1) := by decide +kernel
theorem dX0_writeHeader_211 : decode cX0_writeHeader 211 = .ok (.invokevirtual 169, 3) := by decide +kernel
theorem dX0_writeHeader_214 : decode cX0_writeHeader 214 = .ok (.aload_n 0, 1) := by decide +kernel
theorem dX0_writeHeader_215 : decode cX0_writeHeader 215 = .ok (.getfield 29, 3) := by decide +kernel
theorem dX0_writeHeader_218 : decode cX0_writeHeader 218 = .ok (.iconst 0, 1) := by decide +kernel
theorem dX0_writeHeader_219 : decode cX0_writeHeader 219 = .ok (.aload_n 1, 1) := by decide +kernel
theorem dX0_writeHeader_220 : decode cX0_writeHeader 220 = .ok (.bipush 13, 2) := by decide +kernel
theorem dX0_writeHeader_222 : decode cX0_writeHeader 222 = .ok (.iaload, 1) := by decide +kernel
theorem dX0_writeHeader_223 : decode cX0_writeHeader 223 = .ok (.invokevirtual 162, 3) := by decide +kernel
theorem dX0_writeHeader_226 : decode cX0_writeHeader 226 = .ok (.aload_n 1, 1) := by decide +kernel
theorem dX0_writeHeader_227 : decode cX0_writeHeader 227 = .ok (.bipush 13, 2) := by decide +kernel
theorem dX0_writeHeader_229 : decode cX0_writeHeader 229 = .ok (.iaload, 1) := by decide +kernel
theorem dX0_writeHeader_230 : decode cX0_writeHeader 230 = .ok (.iconst 1, 1) := by decide +kernel
theorem dX0_writeHeader_231 : decode cX0_writeHeader 231 = .ok (.if_icmp .eq 27, 3) := by decide +kernel
theorem dX0_writeHeader_234 : decode cX0_writeHeader 234 = .ok (.aload_n 0, 1) := by decide +kernel
theorem dX0_writeHeader_235 : decode cX0_writeHeader 235 = .ok (.getfield 29, 3) := by decide +kernel
theorem dX0_writeHeader_238 : decode cX0_writeHeader 238 = .ok (.iconst 0, 1) := by decide +kernel
theorem dX0_writeHeader_239 : decode cX0_writeHeader 239 = .ok (.aload_n 1, 1) := by decide +kernel
theorem dX0_writeHeader_240 : decode cX0_writeHeader 240 = .ok (.bipush 14, 2) := by decide +kernel
theorem dX0_writeHeader_242 : decode cX0_writeHeader 242 = .ok (.iaload, 1) := by decide +kernel
theorem dX0_writeHeader_243 : decode cX0_writeHeader 243 = .ok (.invokevirtual 169, 3) := by decide +kernel
theorem dX0_writeHeader_246 : decode cX0_writeHeader 246 = .ok (.aload_n 0, 1) := by decide +kernel
theorem dX0_writeHeader_247 : decode cX0_writeHeader 247 = .ok (.getfield 29, 3) := by decide +kernel
theorem dX0_writeHeader_250 : decode cX0_writeHeader 250 = .ok (.iconst 0, 1) := by decide +kernel
theorem dX0_writeHeader_251 : decode cX0_writeHeader 251 = .ok (.aload_n 1, 1) := by decide +kernel
theorem dX0_writeHeader_252 : decode cX0_writeHeader 252 = .ok (.bipush 15, 2) := by decide +kernel
theorem dX0_writeHeader_254 : decode cX0_writeHeader 254 = .ok (.iaload, 1) := by decide +kernel
theorem dX0_writeHeader_255 : decode cX0_writeHeader 255 = .ok (.invokevirtual 169, 3) := by decide +kernel
theorem dX0_writeHeader_258 : decode cX0_writeHeader 258 = .ok (.aload_n 0, 1) := by decide +kernel
theorem dX0_writeHeader_259 : decode cX0_writeHeader 259 = .ok (.getfield 36, 3) := by decide +kernel
theorem dX0_writeHeader_262 : decode cX0_writeHeader 262 = .ok (.getfield 85, 3) := by decide +kernel
theorem dX0_writeHeader_265 : decode cX0_writeHeader 265 = .ok (.iconst 1, 1) := by decide +kernel
theorem dX0_writeHeader_266 : decode cX0_writeHeader 266 = .ok (.iaload, 1) := by decide +kernel
theorem dX0_writeHeader_267 : decode cX0_writeHeader 267 = .ok (.iconst 1, 1) := by decide +kernel
theorem dX0_writeHeader_268 : decode cX0_writeHeader 268 = .ok (.if_icmp .ne 10, 3) := by decide +kernel
theorem dX0_writeHeader_271 : decode cX0_writeHeader 271 = .ok (.aload_n 0, 1) := by decide +kernel
theorem dX0_writeHeader_272 : decode cX0_writeHeader 272 = .ok (.getfield 29, 3) := by decide +kernel
theorem dX0_writeHeader_275 : decode cX0_writeHeader 275 = .ok (.invokevirtual 322, 3) := by decide +kernel
theorem dX0_writeHeader_278 : decode cX0_writeHeader 278 = .ok (.return_, 1) := by decide +kernel
noncomputable def FX0_writeHeader (G : GG) (M : DD) (a : Nat)  : Option (NN × DD) :=
  dr (xt G []) 9 ((M.2 a 3)) fun b2 =>
  dr (xt G []) 3 ((M.2 b2 1)) fun b3 =>
  dr (xt G []) 13 ((M.2 b3 0)) fun b4 =>
  chk (¬ (((0 : Int32)) < 0 ∨ (xt G []).2.2 b4 ≤ ((0 : Int32)).toNatClampNeg)) <|
  ltt (M.1 b4 ((0 : Int32)).toNatClampNeg) fun x5 =>
  dr (xt G []) 10 ((M.2 a 2)) fun b6 =>
  chk (okd (xt G []) ((M.2 b3 0)) = true) <|
  bnd (FX10_ue (xt G []) M b6 ((0 : Int32)) x5) fun y7 =>
  app y7.1 <|
  ltt ([] ++ y7.1) fun L10 =>
  chk (¬ (((1 : Int32)) < 0 ∨ (xt G L10).2.2 b4 ≤ ((1 : Int32)).toNatClampNeg)) <|
  ltt (y7.2.1 b4 ((1 : Int32)).toNatClampNeg) fun x13 =>
  dr (xt G L10) 10 ((y7.2.2 a 2)) fun b14 =>
  chk (okd (xt G L10) ((M.2 b3 0)) = true) <|
  bnd (FX10_ue (xt G L10) y7.2 b14 ((0 : Int32)) x13) fun y15 =>
  app y15.1 <|
  ltt (L10 ++ y15.1) fun L18 =>
  dr (xt G L18) 10 ((y15.2.2 a 2)) fun b21 =>
  chk (okd (xt G L18) ((M.2 b3 0)) = true) <|
  bnd (FX10_ue (xt G L18) y15.2 b21 ((0 : Int32)) ((0 : Int32))) fun y22 =>
  app y22.1 <|
  ltt (L18 ++ y22.1) fun L25 =>
  chk (¬ (((3 : Int32)) < 0 ∨ (xt G L25).2.2 b4 ≤ ((3 : Int32)).toNatClampNeg)) <|
  ltt (y22.2.1 b4 ((3 : Int32)).toNatClampNeg) fun x28 =>
  ltt (x28.toInt64) fun x29 =>
  dr (xt G L25) 10 ((y22.2.2 a 2)) fun b30 =>
  chk (okd (xt G L25) ((M.2 b3 0)) = true) <|
  bnd (FX10_code (xt G L25) y22.2 b30 ((0 : Int32)) x29 ((8 : Int32))) fun y31 =>
  app y31.1 <|
  ltt (L25 ++ y31.1) fun L34 =>
  dr (xt G L34) 9 ((y31.2.2 a 3)) fun b37 =>
  dr (xt G L34) 3 ((y31.2.2 b37 1)) fun b38 =>
  bnd (FX3_isOwn (xt G L34) y31.2 b38) fun y39 =>
  bnd (if y39.2 = ((0 : Int32)) then (some ([], y39.1)) else
  (chk (¬ (((4 : Int32)) < 0 ∨ (xt G L34).2.2 b4 ≤ ((4 : Int32)).toNatClampNeg)) <|
  ltt (y39.1.1 b4 ((4 : Int32)).toNatClampNeg) fun x204 =>
  dr (xt G L34) 10 ((y39.1.2 a 2)) fun b205 =>
  chk (okd (xt G L34) ((M.2 b3 0)) = true) <|
  bnd (FX10_ue (xt G L34) y39.1 b205 ((0 : Int32)) x204) fun y206 =>
  app y206.1 <|
  ltt (L34 ++ y206.1) fun L209 =>
  some ([], y206.2))) fun (y40 : NN × DD) =>
  app y40.1 <|
  ltt (L34 ++ y40.1) fun L42 =>
  dr (xt G L42) 13 ((y40.2.2 a 1)) fun b44 =>
  chk (¬ (((18 : Int32)) < 0 ∨ (xt G L42).2.2 b44 ≤ ((18 : Int32)).toNatClampNeg)) <|
  ltt (y40.2.1 b44 ((18 : Int32)).toNatClampNeg) fun x45 =>
  bnd (if x45 = ((0 : Int32)) then (chk (¬ (((5 : Int32)) < 0 ∨ (xt G L42).2.2 b4 ≤ ((5 : Int32)).toNatClampNeg)) <|
  ltt (y40.2.1 b4 ((5 : Int32)).toNatClampNeg) fun x193 =>
  ltt (x193.toInt64) fun x194 =>
  dr (xt G L42) 10 ((y40.2.2 a 2)) fun b195 =>
  chk (okd (xt G L42) ((M.2 b3 0)) = true) <|
  bnd (FX10_code (xt G L42) y40.2 b195 ((0 : Int32)) x194 ((8 : Int32))) fun y196 =>
  app y196.1 <|
  ltt (L42 ++ y196.1) fun L199 =>
  some ([], y196.2)) else
  (some ([], y40.2))) fun (y46 : NN × DD) =>
  app y46.1 <|
  ltt (L42 ++ y46.1) fun L48 =>
  chk (¬ (((1 : Int32)) < 0 ∨ (xt G L48).2.2 b4 ≤ ((1 : Int32)).toNatClampNeg)) <|
  ltt (y46.2.1 b4 ((1 : Int32)).toNatClampNeg) fun x50 =>
  bnd (if x50 = ((2 : Int32)) then (some ([], y46.2)) else
  (chk (okd (xt G L48) ((M.2 b3 0)) = true) <|
  bnd (FX0_writeLists (xt G L48) y46.2 a) fun y185 =>
  app y185.1 <|
  ltt (L48 ++ y185.1) fun L188 =>
  some ([], y185.2))) fun (y51 : NN × DD) =>
  app y51.1 <|
  ltt (L48 ++ y51.1) fun L53 =>
  chk (¬ (((1 : Int32)) < 0 ∨ (xt G L53).2.2 b4 ≤ ((1 : Int32)).toNatClampNeg)) <|
  ltt (y51.2.1 b4 ((1 : Int32)).toNatClampNeg) fun x55 =>
  bnd (if x55 = ((0 : Int32)) then (dr (xt G L53) 13 ((y51.2.2 a 1)) fun b169 =>
  chk (¬ (((20 : Int32)) < 0 ∨ (xt G L53).2.2 b169 ≤ ((20 : Int32)).toNatClampNeg)) <|
  ltt (y51.2.1 b169 ((20 : Int32)).toNatClampNeg) fun x170 =>
  bnd (if x170 = ((1 : Int32)) then (chk (okd (xt G L53) ((M.2 b3 0)) = true) <|
  bnd (FX0_writeWeights (xt G L53) y51.2 a) fun y177 =>
  app y177.1 <|
  ltt (L53 ++ y177.1) fun L180 =>
  some ([], y177.2)) else
  (some ([], y51.2))) fun (y171 : NN × DD) =>
  app y171.1 <|
  ltt (L53 ++ y171.1) fun L173 =>
  some ([], y171.2)) else
  (some ([], y51.2))) fun (y56 : NN × DD) =>
  app y56.1 <|
  ltt (L53 ++ y56.1) fun L58 =>
  chk (¬ (((11 : Int32)) < 0 ∨ (xt G L58).2.2 b4 ≤ ((11 : Int32)).toNatClampNeg)) <|
  ltt (y56.2.1 b4 ((11 : Int32)).toNatClampNeg) fun x60 =>
  bnd (if x60 = ((0 : Int32)) then (some ([], y56.2)) else
  (chk (okd (xt G L58) ((M.2 b3 0)) = true) <|
  bnd (FX0_flag (xt G L58) y56.2 a ((0 : Int32))) fun y161 =>
  app y161.1 <|
  ltt (L58 ++ y161.1) fun L164 =>
  some ([], y161.2))) fun (y61 : NN × DD) =>
  app y61.1 <|
  ltt (L58 ++ y61.1) fun L63 =>
  dr (xt G L63) 9 ((y61.2.2 a 3)) fun b65 =>
  dr (xt G L63) 3 ((y61.2.2 b65 1)) fun b66 =>
  bnd (FX3_isOwn (xt G L63) y61.2 b66) fun y67 =>
  bnd (if y67.2 = ((0 : Int32)) then (some ([], y67.1)) else
  (chk (okd (xt G L63) ((M.2 b3 0)) = true) <|
  bnd (FX0_flag (xt G L63) y67.1 a ((0 : Int32))) fun y153 =>
  app y153.1 <|
  ltt (L63 ++ y153.1) fun L156 =>
  some ([], y153.2))) fun (y68 : NN × DD) =>
  app y68.1 <|
  ltt (L63 ++ y68.1) fun L70 =>
  dr (xt G L70) 9 ((y68.2.2 a 3)) fun b72 =>
  dr (xt G L70) 13 ((y68.2.2 b72 2)) fun b73 =>
  chk (¬ (((1 : Int32)) < 0 ∨ (xt G L70).2.2 b73 ≤ ((1 : Int32)).toNatClampNeg)) <|
  ltt (y68.2.1 b73 ((1 : Int32)).toNatClampNeg) fun x74 =>
  bnd (if x74 = ((1 : Int32)) then (chk (¬ (((1 : Int32)) < 0 ∨ (xt G L70).2.2 b4 ≤ ((1 : Int32)).toNatClampNeg)) <|
  ltt (y68.2.1 b4 ((1 : Int32)).toNatClampNeg) fun x137 =>
  bnd (if x137 = ((2 : Int32)) then (some ([], y68.2)) else
  (dr (xt G L70) 10 ((y68.2.2 a 2)) fun b144 =>
  chk (okd (xt G L70) ((M.2 b3 0)) = true) <|
  bnd (FX10_ue (xt G L70) y68.2 b144 ((0 : Int32)) ((0 : Int32))) fun y145 =>
  app y145.1 <|
  ltt (L70 ++ y145.1) fun L148 =>
  some ([], y145.2))) fun (y138 : NN × DD) =>
  app y138.1 <|
  ltt (L70 ++ y138.1) fun L140 =>
  some ([], y138.2)) else
  (some ([], y68.2))) fun (y75 : NN × DD) =>
  app y75.1 <|
  ltt (L70 ++ y75.1) fun L77 =>
  chk (¬ (((12 : Int32)) < 0 ∨ (xt G L77).2.2 b4 ≤ ((12 : Int32)).toNatClampNeg)) <|
  ltt (y75.2.1 b4 ((12 : Int32)).toNatClampNeg) fun x79 =>
  dr (xt G L77) 13 ((y75.2.2 a 1)) fun b80 =>
  chk (¬ (((3 : Int32)) < 0 ∨ (xt G L77).2.2 b80 ≤ ((3 : Int32)).toNatClampNeg)) <|
  ltt (y75.2.1 b80 ((3 : Int32)).toNatClampNeg) fun x81 =>
  ltt ((x79 - x81)) fun x82 =>
  dr (xt G L77) 10 ((y75.2.2 a 2)) fun b83 =>
  chk (okd (xt G L77) ((M.2 b3 0)) = true) <|
  bnd (FX10_se (xt G L77) y75.2 b83 ((0 : Int32)) x82) fun y84 =>
  app y84.1 <|
  ltt (L77 ++ y84.1) fun L87 =>
  chk (¬ (((13 : Int32)) < 0 ∨ (xt G L87).2.2 b4 ≤ ((13 : Int32)).toNatClampNeg)) <|
  ltt (y84.2.1 b4 ((13 : Int32)).toNatClampNeg) fun x90 =>
  dr (xt G L87) 10 ((y84.2.2 a 2)) fun b91 =>
  chk (okd (xt G L87) ((M.2 b3 0)) = true) <|
  bnd (FX10_ue (xt G L87) y84.2 b91 ((0 : Int32)) x90) fun y92 =>
  app y92.1 <|
  ltt (L87 ++ y92.1) fun L95 =>
  chk (¬ (((13 : Int32)) < 0 ∨ (xt G L95).2.2 b4 ≤ ((13 : Int32)).toNatClampNeg)) <|
  ltt (y92.2.1 b4 ((13 : Int32)).toNatClampNeg) fun x98 =>
  bnd (if x98 = ((1 : Int32)) then (some ([], y92.2)) else
  (chk (¬ (((14 : Int32)) < 0 ∨ (xt G L95).2.2 b4 ≤ ((14 : Int32)).toNatClampNeg)) <|
  ltt (y92.2.1 b4 ((14 : Int32)).toNatClampNeg) fun x120 =>
  dr (xt G L95) 10 ((y92.2.2 a 2)) fun b121 =>
  chk (okd (xt G L95) ((M.2 b3 0)) = true) <|
  bnd (FX10_se (xt G L95) y92.2 b121 ((0 : Int32)) x120) fun y122 =>
  app y122.1 <|
  ltt (L95 ++ y122.1) fun L125 =>
  chk (¬ (((15 : Int32)) < 0 ∨ (xt G L125).2.2 b4 ≤ ((15 : Int32)).toNatClampNeg)) <|
  ltt (y122.2.1 b4 ((15 : Int32)).toNatClampNeg) fun x128 =>
  dr (xt G L125) 10 ((y122.2.2 a 2)) fun b129 =>
  bnd (FX10_se (xt G L125) y122.2 b129 ((0 : Int32)) x128) fun y130 =>
  app y130.1 <|
  ltt (L125 ++ y130.1) fun L132 =>
  some ([], y130.2))) fun (y99 : NN × DD) =>
  app y99.1 <|
  ltt (L95 ++ y99.1) fun L101 =>
  dr (xt G L101) 9 ((y99.2.2 a 3)) fun b103 =>
  dr (xt G L101) 13 ((y99.2.2 b103 2)) fun b104 =>
  chk (¬ (((1 : Int32)) < 0 ∨ (xt G L101).2.2 b104 ≤ ((1 : Int32)).toNatClampNeg)) <|
  ltt (y99.2.1 b104 ((1 : Int32)).toNatClampNeg) fun x105 =>
  bnd (if x105 = ((1 : Int32)) then (dr (xt G L101) 10 ((y99.2.2 a 2)) fun b112 =>
  bnd (FX10_beginData (xt G L101) y99.2 b112) fun y113 =>
  app y113.1 <|
  ltt (L101 ++ y113.1) fun L115 =>
  some ([], y113.2)) else
  (some ([], y99.2))) fun (y106 : NN × DD) =>
  app y106.1 <|
  ltt (L101 ++ y106.1) fun L108 =>
  some ([], y106.2)
set_option maxHeartbeats 4000000 in
set_option maxRecDepth 100000 in
theorem kX0_writeHeader (l : Launch) (D : va_G) (ct : CT) (ad : Nat → Nat) (Z : Nat → Nat) (G : GG) (M : DD) (sz : Nat) (a : Nat)  (y : NN × DD) (hc : a < G.1) (hk : G.2.1 a = 0) (hF : FX0_writeHeader G M a  = some y) : Met l yX0_writeHeader wsX0_writeHeader ({ frames := 7, cells := y.1.length, slots := wt y.1, locals := 220 }) (va_Pc [.ref (ad a)] (kB D ct ad Z G M sz)) (va_Qv (fun (u : Nat → Nat) => agr G.1 ad u) (fun u t => kE D ct u (xt G y.1) (wA ad G sz) y.2 t) (wA ad G sz)) y.1.length (wt y.1) (wA ad G sz) := by
  refine Met.ofW (cc := cX0_writeHeader) (maxL := 2) (ret := none) (by decide) rfl ?_
  intro p e s m args below meth c s₁ B hml hv
  obtain ⟨rfl, hsz, hP, hK, hD0, hZ, hN⟩ := hv
  have hx := B.exec
  have hb := B.bytes
  have hr := B.returns
  have hts := atoms_spec (ws := wsX0_writeHeader) B.pre
  have hown : s.vm.findClass RX0 = some m.cls := findClass_of_methodNamed B.named
  have hlocks := B.notSynchronized
  subst hsz
  have hD := wD_self (sz := s.heap.size) hD0
  have hA9 : ∀ q, s.heap.size ≤ q → wA ad G s.heap.size q := fun q h => Or.inr h
  generalize hAe : wA ad G s.heap.size = A at hD hA9 hZ ⊢
  have hS : va_S A s.heap s.heap [] := va_S.rf
  have hl := lv_entry ([.ref (ad a)]) (n := 2) (Nat.le_of_ble_eq_true rfl)
  rw [lg_entry_eq]
  generalize (lg_sl ([.ref (ad a)]) ++ List.replicate (2 - (lg_sl ([.ref (ad a)])).length) Slot.unset).toArray = ls at hl ⊢
  have hl : lv_has ls 2 [(0, .ref (ad a))] := hl
  unfold FX0_writeHeader at hF
  rw [← wld_0 ct ad G M] at hP hD
  have hk := xt_k0 hc hk
  have hc := xt_l0 hc
  have hag := agr_rf G.1 ad
  obtain ⟨w0, hw0⟩ : ∃ z, z = y := ⟨_, rfl⟩
  rw [← hw0] at hF
  have hT : y.1 = [] ++ w0.1 := by rw [hw0]; rfl
  have h2 : y.2 = w0.2 := by rw [hw0]
  have hbl : y.1.length ≤ y.1.length ∧ wt y.1 ≤ wt y.1 := ⟨Nat.le_refl _, Nat.le_refl _⟩
  refine lv_aload_n hx hb dX0_writeHeader_0 rfl (lv_at hl 0 rfl) ?_
  refine va_get (D := D) (ci := 0) (v := va_re ad (M.2 a 3)) (C := RX0) (T := TX0) (N := 21) hx hb hts (by decide +kernel) hown hK hP a (wld_o ct ad (xt G []) M hc hk (by decide)) rfl 3 (by decide) (hts (.fieldLink RX0 36 "VideoSuite$Coder" "work" "LVideoSuite$Work;") (by decide +kernel)) (fun _ h9 => h9) rfl dX0_writeHeader_1 ?_
  obtain ⟨b2, ho2, hc2, hk2, hF⟩ := dr_some hF
  refine W_st (st' := [.ref (ad b2)]) (by rw [va_some ho2]) ?_
  refine va_get (D := D) (ci := 9) (v := va_re ad (M.2 b2 1)) (C := RX9) (T := TX9) (N := 20) hx hb hts (by decide +kernel) hown hK hP b2 (wld_o ct ad (xt G []) M hc2 hk2 (by decide)) rfl 1 (by decide) (hts (.fieldLink RX0 81 "VideoSuite$Work" "head" "LVideoSuite$Header;") (by decide +kernel)) (fun _ h9 => h9) rfl dX0_writeHeader_4 ?_
  obtain ⟨b3, ho3, hc3, hk3, hF⟩ := dr_some hF
  refine W_st (st' := [.ref (ad b3)]) (by rw [va_some ho3]) ?_
  refine va_get (D := D) (ci := 3) (v := va_re ad (M.2 b3 0)) (C := RX3) (T := TX3) (N := 4) hx hb hts (by decide +kernel) hown hK hP b3 (wld_o ct ad (xt G []) M hc3 hk3 (by decide)) rfl 0 (by decide) (hts (.fieldLink RX0 252 "VideoSuite$Header" "v" "[I") (by decide +kernel)) (fun _ h9 => h9) rfl dX0_writeHeader_7 ?_
  refine lv_astoreq_n (lv' := [(1, va_re ad (M.2 b3 0)), (0, .ref (ad a))]) hx hb dX0_writeHeader_10 rfl hl (by decide) rfl (fun ls hl => ?_)
  refine lv_aload_n hx hb dX0_writeHeader_11 rfl (lv_at hl 1 rfl) ?_
  refine va_get (D := D) (ci := 0) (v := va_re ad (M.2 a 2)) (C := RX0) (T := TX0) (N := 21) hx hb hts (by decide +kernel) hown hK hP a (wld_o ct ad (xt G []) M hc hk (by decide)) rfl 2 (by decide) (hts (.fieldLink RX0 29 "VideoSuite$Coder" "writer" "LVideoSuite$Writer;") (by decide +kernel)) (fun _ h9 => h9) rfl dX0_writeHeader_12 ?_
  refine lv_iconst (v := (0 : Int32)) hx hb dX0_writeHeader_15 (by decide) ?_
  refine lv_aloadq_n hx hb dX0_writeHeader_16 rfl (lv_at hl 0 rfl) ?_
  refine lv_iconst (v := (0 : Int32)) hx hb dX0_writeHeader_17 (by decide) ?_
  obtain ⟨b4, ho4, hc4, hk4, hF⟩ := dr_some hF
  refine W_st (st' := [.int (0 : Int32), .ref (ad b4), .int (0 : Int32), va_re ad (M.2 a 2)]) (by rw [va_some ho4]) ?_
  obtain ⟨hvc, hF⟩ := chk_some hF
  refine va_iald hx hb hK hP b4 1 (wld_i ct ad (xt G []) M hc4 hk4) rfl hvc dX0_writeHeader_18 ?_
  obtain ⟨x5, ex5, hF⟩ := ltt_some hF
  refine lv_topi (fun zx5 ezx5 => ?_)
  obtain rfl : x5 = zx5 := ex5.trans ezx5.symm
  obtain ⟨b6, ho6, hc6, hk6, hF⟩ := dr_some hF
  refine W_st (st' := [.int x5, .int (0 : Int32), .ref (ad b6)]) (by rw [va_some ho6]) ?_
  obtain ⟨hq8, hF⟩ := chk_some hF
  obtain ⟨y7, hy7, hF⟩ := bnd_some hF
  obtain ⟨w9, hF, ew9⟩ := app_some hF
  obtain ⟨L10, eL10, hF⟩ := ltt_some hF
  have hT10 : y.1 = ([] ++ y7.1) ++ w9.1 := by rw [hT, ew9]; simp only [List.append_assoc]
  have hf9 := wA_in hD hA9 hS
  refine va_callv (va_runV (As := [.int (0 : Int32), .int x5]) (rest := []) ⟨hx, hb, hml, hown, hts⟩ (kX10_ue l D ct ad Z (xt G []) M _ b6 ((0 : Int32)) x5 y7 hc6 hk6 hy7) (cwV 2 hts gX0_writeHeader_X10_ue rfl rfl rfl (by decide +kernel) ⟨Nat.le_of_ble_eq_true rfl, Nat.le_of_ble_eq_true rfl⟩) ⟨fun a U g mk q => by obtain ⟨q0, q1, qP, qK, qD, qZ, qN⟩ := q; exact ⟨q0, q1, qP, va_K.moved (u := U) (U := U.calling g mk a) (Vm.Alike.refl U.vm) qK, qD, sF.moved (u := U) (U := U.calling g mk a) (Vm.Alike.refl U.vm) qZ, nF.same rfl qN⟩, va_recv hK hP (ci := 10) (q0 := b6) rfl (wld_o ct ad (xt G []) M hc6 hk6 (by decide)), fun U hU hW => ⟨rfl, by rw [hU], by rw [hU]; exact hP, va_K.moved hW.alike hK, hD.weaken (fun _ _ _ _ => trivial), by rw [hU]; exact ((hZ.kept hS.2.1).narrow hf9).moved hW.alike, hN.warm hW⟩⟩ rfl rfl hl.1 rfl (lv_room (Nat.le_of_ble_eq_true rfl)) dX0_writeHeader_19 (room_s hT10 hbl)) hS (fun q _ h => hf9 q h) hf9 (fun ad11 t H locs ht hvm hw hB hz1 hk1 hS => ?_)
  have hn12 := hw
  obtain ⟨hP, hK9, hD9⟩ := hB
  rw [ht] at hP
  have hD := hD9.weaken (fun _ q _ h => hf9 q.1 h)
  rw [xt_xt, ← eL10] at hP hD
  refine W_cs (k := L10.length) (n := wt L10) (by rw [eL10]; exact (len_s [] y7.1).symm) (by rw [eL10]; exact (wt_app [] y7.1).symm) ?_
  have hT : y.1 = L10 ++ w9.1 := by rw [hT10, eL10]
  have h2 : y.2 = w9.2 := by rw [h2, ew9]
  have hl := lv_sub (l' := [(1, va_re ad (M.2 b3 0)), (0, .ref (ad a))]) hl [0, 1] rfl
  have e9 : ([(1, va_re ad (M.2 b3 0)), (0, .ref (ad a))] : List (Nat × Value)) = [(1, va_re ad11 (M.2 b3 0)), (0, .ref (ad11 a))] := (by first | rfl | simp only [agr_re hn12 hq8, hn12 a hc])
  rw [e9] at hl
  clear e9
  have hk : (xt G L10).2.1 a = 0 := by rw [eL10]; exact xt_k _ hc hk
  have hc : a < (xt G L10).1 := by rw [eL10]; exact xt_l _ hc
  have hk2 : (xt G L10).2.1 b2 = 9 := by rw [eL10]; exact xt_k _ hc2 hk2
  have hc2 : b2 < (xt G L10).1 := by rw [eL10]; exact xt_l _ hc2
  have hk3 : (xt G L10).2.1 b3 = 3 := by rw [eL10]; exact xt_k _ hc3 hk3
  have hc3 : b3 < (xt G L10).1 := by rw [eL10]; exact xt_l _ hc3
  have hk4 : (xt G L10).2.1 b4 = 13 := by rw [eL10]; exact xt_k _ hc4 hk4
  have hc4 : b4 < (xt G L10).1 := by rw [eL10]; exact xt_l _ hc4
  have hk6 : (xt G L10).2.1 b6 = 10 := by rw [eL10]; exact xt_k _ hc6 hk6
  have hc6 : b6 < (xt G L10).1 := by rw [eL10]; exact xt_l _ hc6
  have hag := agr_t (xt_ge _ _) hag hn12
  refine lv_aload_n hx hb dX0_writeHeader_22 rfl (lv_at hl 1 rfl) ?_
  refine va_get (D := D) (ci := 0) (v := va_re ad11 (y7.2.2 a 2)) (C := RX0) (T := TX0) (N := 21) hx hb hts (by decide +kernel) hown hK hP a (wld_o ct ad11 (xt G L10) y7.2 hc hk (by decide)) rfl 2 (by decide) (hts (.fieldLink RX0 29 "VideoSuite$Coder" "writer" "LVideoSuite$Writer;") (by decide +kernel)) (fun _ h9 => h9) rfl dX0_writeHeader_23 ?_
  refine lv_iconst (v := (0 : Int32)) hx hb dX0_writeHeader_26 (by decide) ?_
  refine lv_aloadq_n hx hb dX0_writeHeader_27 rfl (lv_at hl 0 rfl) ?_
  refine lv_iconst (v := (1 : Int32)) hx hb dX0_writeHeader_28 (by decide) ?_
  refine W_st (st' := [.int (1 : Int32), .ref (ad11 b4), .int (0 : Int32), va_re ad11 (y7.2.2 a 2)]) (by rw [va_some ho4]) ?_
  obtain ⟨hvc, hF⟩ := chk_some hF
  refine va_iald hx hb hK hP b4 1 (wld_i ct ad11 (xt G L10) y7.2 hc4 hk4) rfl hvc dX0_writeHeader_29 ?_
  obtain ⟨x13, ex13, hF⟩ := ltt_some hF
  refine lv_topi (fun zx13 ezx13 => ?_)
  obtain rfl : x13 = zx13 := ex13.trans ezx13.symm
  obtain ⟨b14, ho14, hc14, hk14, hF⟩ := dr_some hF
  refine W_st (st' := [.int x13, .int (0 : Int32), .ref (ad11 b14)]) (by rw [va_some ho14]) ?_
  obtain ⟨hq16, hF⟩ := chk_some hF
  obtain ⟨y15, hy15, hF⟩ := bnd_some hF
  obtain ⟨w17, hF, ew17⟩ := app_some hF
  obtain ⟨L18, eL18, hF⟩ := ltt_some hF
  have hT18 : y.1 = (L10 ++ y15.1) ++ w17.1 := by rw [hT, ew17]; simp only [List.append_assoc]
  have hf9 := wA_in hD hA9 hS
  refine va_callv (va_runV (As := [.int (0 : Int32), .int x13]) (rest := []) ⟨hx, hb, hml, hown, hts⟩ (kX10_ue l D ct ad11 Z (xt G L10) y7.2 _ b14 ((0 : Int32)) x13 y15 hc14 hk14 hy15) (cwV 2 hts gX0_writeHeader_X10_ue rfl rfl rfl (by decide +kernel) ⟨Nat.le_of_ble_eq_true rfl, Nat.le_of_ble_eq_true rfl⟩) ⟨fun a U g mk q => by obtain ⟨q0, q1, qP, qK, qD, qZ, qN⟩ := q; exact ⟨q0, q1, qP, va_K.moved (u := U) (U := U.calling g mk a) (Vm.Alike.refl U.vm) qK, qD, sF.moved (u := U) (U := U.calling g mk a) (Vm.Alike.refl U.vm) qZ, nF.same rfl qN⟩, va_recv hK hP (ci := 10) (q0 := b14) rfl (wld_o ct ad11 (xt G L10) y7.2 hc14 hk14 (by decide)), fun U hU hW => ⟨rfl, by rw [hU], by rw [hU]; exact hP, va_K.moved hW.alike hK, hD.weaken (fun _ _ _ _ => trivial), by rw [hU]; exact ((hZ.kept hS.2.1).narrow hf9).moved hW.alike, hN.warm hW⟩⟩ rfl rfl hl.1 rfl (lv_room (Nat.le_of_ble_eq_true rfl)) dX0_writeHeader_30 (room_s hT18 hbl)) hS (fun q _ h => hf9 q h) hf9 (fun ad19 t H locs ht hvm hw hB hz1 hk1 hS => ?_)
  have hn20 := hw
  obtain ⟨hP, hK9, hD9⟩ := hB
  rw [ht] at hP
  have hD := hD9.weaken (fun _ q _ h => hf9 q.1 h)
  rw [xt_xt, ← eL18] at hP hD
  refine W_cs (k := L18.length) (n := wt L18) (by rw [eL18]; exact (len_s L10 y15.1).symm) (by rw [eL18]; exact (wt_app L10 y15.1).symm) ?_
  have hT : y.1 = L18 ++ w17.1 := by rw [hT18, eL18]
  have h2 : y.2 = w17.2 := by rw [h2, ew17]
  have hl := lv_sub (l' := [(1, va_re ad11 (M.2 b3 0)), (0, .ref (ad11 a))]) hl [0, 1] rfl
  have e9 : ([(1, va_re ad11 (M.2 b3 0)), (0, .ref (ad11 a))] : List (Nat × Value)) = [(1, va_re ad19 (M.2 b3 0)), (0, .ref (ad19 a))] := (by first | rfl | simp only [agr_re hn20 hq16, hn20 a hc])
  rw [e9] at hl
  clear e9
  have hk : (xt G L18).2.1 a = 0 := by rw [eL18]; exact xt_k _ hc hk
  have hc : a < (xt G L18).1 := by rw [eL18]; exact xt_l _ hc
  have hk2 : (xt G L18).2.1 b2 = 9 := by rw [eL18]; exact xt_k _ hc2 hk2
  have hc2 : b2 < (xt G L18).1 := by rw [eL18]; exact xt_l _ hc2
  have hk3 : (xt G L18).2.1 b3 = 3 := by rw [eL18]; exact xt_k _ hc3 hk3
  have hc3 : b3 < (xt G L18).1 := by rw [eL18]; exact xt_l _ hc3
  have hk4 : (xt G L18).2.1 b4 = 13 := by rw [eL18]; exact xt_k _ hc4 hk4
  have hc4 : b4 < (xt G L18).1 := by rw [eL18]; exact xt_l _ hc4
  have hk6 : (xt G L18).2.1 b6 = 10 := by rw [eL18]; exact xt_k _ hc6 hk6
  have hc6 : b6 < (xt G L18).1 := by rw [eL18]; exact xt_l _ hc6
  have hk14 : (xt G L18).2.1 b14 = 10 := by rw [eL18]; exact xt_k _ hc14 hk14
  have hc14 : b14 < (xt G L18).1 := by rw [eL18]; exact xt_l _ hc14
  have hag := agr_t (xt_ge _ _) hag hn20
  refine lv_aload_n hx hb dX0_writeHeader_33 rfl (lv_at hl 1 rfl) ?_
  refine va_get (D := D) (ci := 0) (v := va_re ad19 (y15.2.2 a 2)) (C := RX0) (T := TX0) (N := 21) hx hb hts (by decide +kernel) hown hK hP a (wld_o ct ad19 (xt G L18) y15.2 hc hk (by decide)) rfl 2 (by decide) (hts (.fieldLink RX0 29 "VideoSuite$Coder" "writer" "LVideoSuite$Writer;") (by decide +kernel)) (fun _ h9 => h9) rfl dX0_writeHeader_34 ?_
  refine lv_iconst (v := (0 : Int32)) hx hb dX0_writeHeader_37 (by decide) ?_
  refine lv_iconst (v := (0 : Int32)) hx hb dX0_writeHeader_38 (by decide) ?_
  obtain ⟨b21, ho21, hc21, hk21, hF⟩ := dr_some hF
  refine W_st (st' := [.int (0 : Int32), .int (0 : Int32), .ref (ad19 b21)]) (by rw [va_some ho21]) ?_
  obtain ⟨hq23, hF⟩ := chk_some hF
  obtain ⟨y22, hy22, hF⟩ := bnd_some hF
  obtain ⟨w24, hF, ew24⟩ := app_some hF
  obtain ⟨L25, eL25, hF⟩ := ltt_some hF
  have hT25 : y.1 = (L18 ++ y22.1) ++ w24.1 := by rw [hT, ew24]; simp only [List.append_assoc]
  have hf9 := wA_in hD hA9 hS
  refine va_callv (va_runV (As := [.int (0 : Int32), .int (0 : Int32)]) (rest := []) ⟨hx, hb, hml, hown, hts⟩ (kX10_ue l D ct ad19 Z (xt G L18) y15.2 _ b21 ((0 : Int32)) ((0 : Int32)) y22 hc21 hk21 hy22) (cwV 2 hts gX0_writeHeader_X10_ue rfl rfl rfl (by decide +kernel) ⟨Nat.le_of_ble_eq_true rfl, Nat.le_of_ble_eq_true rfl⟩) ⟨fun a U g mk q => by obtain ⟨q0, q1, qP, qK, qD, qZ, qN⟩ := q; exact ⟨q0, q1, qP, va_K.moved (u := U) (U := U.calling g mk a) (Vm.Alike.refl U.vm) qK, qD, sF.moved (u := U) (U := U.calling g mk a) (Vm.Alike.refl U.vm) qZ, nF.same rfl qN⟩, va_recv hK hP (ci := 10) (q0 := b21) rfl (wld_o ct ad19 (xt G L18) y15.2 hc21 hk21 (by decide)), fun U hU hW => ⟨rfl, by rw [hU], by rw [hU]; exact hP, va_K.moved hW.alike hK, hD.weaken (fun _ _ _ _ => trivial), by rw [hU]; exact ((hZ.kept hS.2.1).narrow hf9).moved hW.alike, hN.warm hW⟩⟩ rfl rfl hl.1 rfl (lv_room (Nat.le_of_ble_eq_true rfl)) dX0_writeHeader_39 (room_s hT25 hbl)) hS (fun q _ h => hf9 q h) hf9 (fun ad26 t H locs ht hvm hw hB hz1 hk1 hS => ?_)
  have hn27 := hw
  obtain ⟨hP, hK9, hD9⟩ := hB
  rw [ht] at hP
  have hD := hD9.weaken (fun _ q _ h => hf9 q.1 h)
  rw [xt_xt, ← eL25] at hP hD
  refine W_cs (k := L25.length) (n := wt L25) (by rw [eL25]; exact (len_s L18 y22.1).symm) (by rw [eL25]; exact (wt_app L18 y22.1).symm) ?_
  have hT : y.1 = L25 ++ w24.1 := by rw [hT25, eL25]
  have h2 : y.2 = w24.2 := by rw [h2, ew24]
  have hl := lv_sub (l' := [(1, va_re ad19 (M.2 b3 0)), (0, .ref (ad19 a))]) hl [0, 1] rfl
  have e9 : ([(1, va_re ad19 (M.2 b3 0)), (0, .ref (ad19 a))] : List (Nat × Value)) = [(1, va_re ad26 (M.2 b3 0)), (0, .ref (ad26 a))] := (by first | rfl | simp only [agr_re hn27 hq23, hn27 a hc])
  rw [e9] at hl
  clear e9
  have hk : (xt G L25).2.1 a = 0 := by rw [eL25]; exact xt_k _ hc hk
  have hc : a < (xt G L25).1 := by rw [eL25]; exact xt_l _ hc
  have hk2 : (xt G L25).2.1 b2 = 9 := by rw [eL25]; exact xt_k _ hc2 hk2
  have hc2 : b2 < (xt G L25).1 := by rw [eL25]; exact xt_l _ hc2
  have hk3 : (xt G L25).2.1 b3 = 3 := by rw [eL25]; exact xt_k _ hc3 hk3
  have hc3 : b3 < (xt G L25).1 := by rw [eL25]; exact xt_l _ hc3
  have hk4 : (xt G L25).2.1 b4 = 13 := by rw [eL25]; exact xt_k _ hc4 hk4
  have hc4 : b4 < (xt G L25).1 := by rw [eL25]; exact xt_l _ hc4
  have hk6 : (xt G L25).2.1 b6 = 10 := by rw [eL25]; exact xt_k _ hc6 hk6
  have hc6 : b6 < (xt G L25).1 := by rw [eL25]; exact xt_l _ hc6
  have hk14 : (xt G L25).2.1 b14 = 10 := by rw [eL25]; exact xt_k _ hc14 hk14
  have hc14 : b14 < (xt G L25).1 := by rw [eL25]; exact xt_l _ hc14
  have hk21 : (xt G L25).2.1 b21 = 10 := by rw [eL25]; exact xt_k _ hc21 hk21
  have hc21 : b21 < (xt G L25).1 := by rw [eL25]; exact xt_l _ hc21
  have hag := agr_t (xt_ge _ _) hag hn27
  refine lv_aload_n hx hb dX0_writeHeader_42 rfl (lv_at hl 1 rfl) ?_
  refine va_get (D := D) (ci := 0) (v := va_re ad26 (y22.2.2 a 2)) (C := RX0) (T := TX0) (N := 21) hx hb hts (by decide +kernel) hown hK hP a (wld_o ct ad26 (xt G L25) y22.2 hc hk (by decide)) rfl 2 (by decide) (hts (.fieldLink RX0 29 "VideoSuite$Coder" "writer" "LVideoSuite$Writer;") (by decide +kernel)) (fun _ h9 => h9) rfl dX0_writeHeader_43 ?_
  refine lv_iconst (v := (0 : Int32)) hx hb dX0_writeHeader_46 (by decide) ?_
  refine lv_aloadq_n hx hb dX0_writeHeader_47 rfl (lv_at hl 0 rfl) ?_
  refine lv_iconst (v := (3 : Int32)) hx hb dX0_writeHeader_48 (by decide) ?_
  refine W_st (st' := [.int (3 : Int32), .ref (ad26 b4), .int (0 : Int32), va_re ad26 (y22.2.2 a 2)]) (by rw [va_some ho4]) ?_
  obtain ⟨hvc, hF⟩ := chk_some hF
  refine va_iald hx hb hK hP b4 1 (wld_i ct ad26 (xt G L25) y22.2 hc4 hk4) rfl hvc dX0_writeHeader_49 ?_
  obtain ⟨x28, ex28, hF⟩ := ltt_some hF
  refine lv_topi (fun zx28 ezx28 => ?_)
  obtain rfl : x28 = zx28 := ex28.trans ezx28.symm
  refine lv_i2l (v := x28.toInt64) hx hb dX0_writeHeader_50 rfl ?_
  obtain ⟨x29, ex29, hF⟩ := ltt_some hF
  refine lv_topl (fun zx29 ezx29 => ?_)
  obtain rfl : x29 = zx29 := ex29.trans ezx29.symm
  refine lv_bipush (v := (8 : Int32)) hx hb dX0_writeHeader_51 (by decide) ?_
  obtain ⟨b30, ho30, hc30, hk30, hF⟩ := dr_some hF
  refine W_st (st' := [.int (8 : Int32), .long x29, .int (0 : Int32), .ref (ad26 b30)]) (by rw [va_some ho30]) ?_
  obtain ⟨hq32, hF⟩ := chk_some hF
  obtain ⟨y31, hy31, hF⟩ := bnd_some hF
  obtain ⟨w33, hF, ew33⟩ := app_some hF
  obtain ⟨L34, eL34, hF⟩ := ltt_some hF
  have hT34 : y.1 = (L25 ++ y31.1) ++ w33.1 := by rw [hT, ew33]; simp only [List.append_assoc]
  have hf9 := wA_in hD hA9 hS
  refine va_callv (va_runV (As := [.int (0 : Int32), .long x29, .int (8 : Int32)]) (rest := []) ⟨hx, hb, hml, hown, hts⟩ (kX10_code l D ct ad26 Z (xt G L25) y22.2 _ b30 ((0 : Int32)) x29 ((8 : Int32)) y31 hc30 hk30 hy31) (cwV 3 hts gX0_writeHeader_X10_code rfl rfl rfl (by decide +kernel) ⟨Nat.le_of_ble_eq_true rfl, Nat.le_of_ble_eq_true rfl⟩) ⟨fun a U g mk q => by obtain ⟨q0, q1, qP, qK, qD, qZ, qN⟩ := q; exact ⟨q0, q1, qP, va_K.moved (u := U) (U := U.calling g mk a) (Vm.Alike.refl U.vm) qK, qD, sF.moved (u := U) (U := U.calling g mk a) (Vm.Alike.refl U.vm) qZ, nF.same rfl qN⟩, va_recv hK hP (ci := 10) (q0 := b30) rfl (wld_o ct ad26 (xt G L25) y22.2 hc30 hk30 (by decide)), fun U hU hW => ⟨rfl, by rw [hU], by rw [hU]; exact hP, va_K.moved hW.alike hK, hD.weaken (fun _ _ _ _ => trivial), by rw [hU]; exact ((hZ.kept hS.2.1).narrow hf9).moved hW.alike, hN.warm hW⟩⟩ rfl rfl hl.1 rfl (lv_room (Nat.le_of_ble_eq_true rfl)) dX0_writeHeader_53 (room_s hT34 hbl)) hS (fun q _ h => hf9 q h) hf9 (fun ad35 t H locs ht hvm hw hB hz1 hk1 hS => ?_)
  have hn36 := hw
  obtain ⟨hP, hK9, hD9⟩ := hB
  rw [ht] at hP
  have hD := hD9.weaken (fun _ q _ h => hf9 q.1 h)
  rw [xt_xt, ← eL34] at hP hD
  refine W_cs (k := L34.length) (n := wt L34) (by rw [eL34]; exact (len_s L25 y31.1).symm) (by rw [eL34]; exact (wt_app L25 y31.1).symm) ?_
  have hT : y.1 = L34 ++ w33.1 := by rw [hT34, eL34]
  have h2 : y.2 = w33.2 := by rw [h2, ew33]
  have hl := lv_sub (l' := [(1, va_re ad26 (M.2 b3 0)), (0, .ref (ad26 a))]) hl [0, 1] rfl
  have e9 : ([(1, va_re ad26 (M.2 b3 0)), (0, .ref (ad26 a))] : List (Nat × Value)) = [(1, va_re ad35 (M.2 b3 0)), (0, .ref (ad35 a))] := (by first | rfl | simp only [agr_re hn36 hq32, hn36 a hc])
  rw [e9] at hl
  clear e9
  have hk : (xt G L34).2.1 a = 0 := by rw [eL34]; exact xt_k _ hc hk
  have hc : a < (xt G L34).1 := by rw [eL34]; exact xt_l _ hc
  have hk2 : (xt G L34).2.1 b2 = 9 := by rw [eL34]; exact xt_k _ hc2 hk2
  have hc2 : b2 < (xt G L34).1 := by rw [eL34]; exact xt_l _ hc2
  have hk3 : (xt G L34).2.1 b3 = 3 := by rw [eL34]; exact xt_k _ hc3 hk3
  have hc3 : b3 < (xt G L34).1 := by rw [eL34]; exact xt_l _ hc3
  have hk4 : (xt G L34).2.1 b4 = 13 := by rw [eL34]; exact xt_k _ hc4 hk4
  have hc4 : b4 < (xt G L34).1 := by rw [eL34]; exact xt_l _ hc4
  have hk6 : (xt G L34).2.1 b6 = 10 := by rw [eL34]; exact xt_k _ hc6 hk6
  have hc6 : b6 < (xt G L34).1 := by rw [eL34]; exact xt_l _ hc6
  have hk14 : (xt G L34).2.1 b14 = 10 := by rw [eL34]; exact xt_k _ hc14 hk14
  have hc14 : b14 < (xt G L34).1 := by rw [eL34]; exact xt_l _ hc14
  have hk21 : (xt G L34).2.1 b21 = 10 := by rw [eL34]; exact xt_k _ hc21 hk21
  have hc21 : b21 < (xt G L34).1 := by rw [eL34]; exact xt_l _ hc21
  have hk30 : (xt G L34).2.1 b30 = 10 := by rw [eL34]; exact xt_k _ hc30 hk30
  have hc30 : b30 < (xt G L34).1 := by rw [eL34]; exact xt_l _ hc30
  have hag := agr_t (xt_ge _ _) hag hn36
  refine lv_aload_n hx hb dX0_writeHeader_56 rfl (lv_at hl 1 rfl) ?_
  refine va_get (D := D) (ci := 0) (v := va_re ad35 (y31.2.2 a 3)) (C := RX0) (T := TX0) (N := 21) hx hb hts (by decide +kernel) hown hK hP a (wld_o ct ad35 (xt G L34) y31.2 hc hk (by decide)) rfl 3 (by decide) (hts (.fieldLink RX0 36 "VideoSuite$Coder" "work" "LVideoSuite$Work;") (by decide +kernel)) (fun _ h9 => h9) rfl dX0_writeHeader_57 ?_
  obtain ⟨b37, ho37, hc37, hk37, hF⟩ := dr_some hF
  refine W_st (st' := [.ref (ad35 b37)]) (by rw [va_some ho37]) ?_
  refine va_get (D := D) (ci := 9) (v := va_re ad35 (y31.2.2 b37 1)) (C := RX9) (T := TX9) (N := 20) hx hb hts (by decide +kernel) hown hK hP b37 (wld_o ct ad35 (xt G L34) y31.2 hc37 hk37 (by decide)) rfl 1 (by decide) (hts (.fieldLink RX0 81 "VideoSuite$Work" "head" "LVideoSuite$Header;") (by decide +kernel)) (fun _ h9 => h9) rfl dX0_writeHeader_60 ?_
  obtain ⟨b38, ho38, hc38, hk38, hF⟩ := dr_some hF
  refine W_st (st' := [.ref (ad35 b38)]) (by rw [va_some ho38]) ?_
  obtain ⟨y39, hy39, hF⟩ := bnd_some hF
  have hf9 := wA_in hD hA9 hS
  refine va_calli (va_runV (As := []) (rest := []) ⟨hx, hb, hml, hown, hts⟩ (kX3_isOwn l D ct ad35 Z (xt G L34) y31.2 H.size b38 y39 hc38 hk38 hy39) (cwV 0 hts gX0_writeHeader_X3_isOwn rfl rfl rfl (by decide +kernel) ⟨Nat.le_of_ble_eq_true rfl, Nat.le_of_ble_eq_true rfl⟩) ⟨fun a U g mk q => by obtain ⟨q0, q1, qP, qK, qD, qZ, qN⟩ := q; exact ⟨q0, q1, qP, va_K.moved (u := U) (U := U.calling g mk a) (Vm.Alike.refl U.vm) qK, qD, sF.moved (u := U) (U := U.calling g mk a) (Vm.Alike.refl U.vm) qZ, nF.same rfl qN⟩, va_recv hK hP (ci := 3) (q0 := b38) rfl (wld_o ct ad35 (xt G L34) y31.2 hc38 hk38 (by decide)), fun U hU hW => ⟨rfl, by rw [hU], by rw [hU]; exact hP, va_K.moved hW.alike hK, hD.weaken (fun _ _ _ _ => trivial), by rw [hU]; exact ((hZ.kept hS.2.1).narrow hf9).moved hW.alike, hN.warm hW⟩⟩ rfl rfl hl.1 rfl (lv_room (Nat.le_of_ble_eq_true rfl)) dX0_writeHeader_63 (room_d hT hbl)) hS (fun q _ h => hf9 q h) hf9 (fun r u t H locs ht hvm hw hB hz1 hk1 hS => ?_)
  obtain ⟨hP, hK9, hD9⟩ := hB
  rw [ht] at hP
  try dsimp only at hw
  subst hw
  refine W_cs (k := (L34 : NN).length) (n := wt L34) rfl rfl ?_
  have hD := hD9.weaken (fun _ q _ h => hf9 q.1 h)
  obtain ⟨y40, hy40, hF⟩ := bnd_some hF
  obtain ⟨w41, hF, ew41⟩ := app_some hF
  obtain ⟨L42, eL42, hF⟩ := ltt_some hF
  have hT42 : y.1 = (L34 ++ y40.1) ++ w41.1 := by rw [hT, ew41]; simp only [List.append_assoc]
  have hbl42 : L42.length ≤ y.1.length ∧ wt L42 ≤ wt y.1 := by rw [eL42]; exact room_d hT42 hbl
  have J40 : ∀ (ad43 : Nat → Nat), agr G.1 ad ad43 → ∀ (H : Heap) (locs : List Loc) (ls : Array Slot), va_P D classes (wld ct ad43 (xt G L42) y40.2) H → va_D A (wld ct ad43 (xt G L42) y40.2) → va_S A s.heap H locs → lv_has ls 2 [(1, va_re ad43 (M.2 b3 0)), (0, .ref (ad43 a))] → W p l e (headSpec wsX0_writeHeader ({ frames := 7, cells := y.1.length, slots := wt y.1, locals := 220 })).room s m ([.ref (ad a)] : List Value).toArray below meth c H locs (L42 : NN).length (wt L42) (MQ below (va_Qv (fun (u : Nat → Nat) => agr G.1 ad u) (fun u t => kE D ct u (xt G y.1) A y.2 t) A) ([.ref (ad a)] : List Value).toArray s y.1.length (wt y.1) A) (F0 m 80 ls []) := by
    intro ad43 hag H locs ls hP hD hS hl
    have hT : y.1 = L42 ++ w41.1 := by rw [hT42, eL42]
    have h2 : y.2 = w41.2 := by rw [h2, ew41]
    have hk : (xt G L42).2.1 a = 0 := by rw [eL42]; exact xt_k _ hc hk
    have hc : a < (xt G L42).1 := by rw [eL42]; exact xt_l _ hc
    have hk2 : (xt G L42).2.1 b2 = 9 := by rw [eL42]; exact xt_k _ hc2 hk2
    have hc2 : b2 < (xt G L42).1 := by rw [eL42]; exact xt_l _ hc2
    have hk3 : (xt G L42).2.1 b3 = 3 := by rw [eL42]; exact xt_k _ hc3 hk3
    have hc3 : b3 < (xt G L42).1 := by rw [eL42]; exact xt_l _ hc3
    have hk4 : (xt G L42).2.1 b4 = 13 := by rw [eL42]; exact xt_k _ hc4 hk4
    have hc4 : b4 < (xt G L42).1 := by rw [eL42]; exact xt_l _ hc4
    have hk6 : (xt G L42).2.1 b6 = 10 := by rw [eL42]; exact xt_k _ hc6 hk6
    have hc6 : b6 < (xt G L42).1 := by rw [eL42]; exact xt_l _ hc6
    have hk14 : (xt G L42).2.1 b14 = 10 := by rw [eL42]; exact xt_k _ hc14 hk14
    have hc14 : b14 < (xt G L42).1 := by rw [eL42]; exact xt_l _ hc14
    have hk21 : (xt G L42).2.1 b21 = 10 := by rw [eL42]; exact xt_k _ hc21 hk21
    have hc21 : b21 < (xt G L42).1 := by rw [eL42]; exact xt_l _ hc21
    have hk30 : (xt G L42).2.1 b30 = 10 := by rw [eL42]; exact xt_k _ hc30 hk30
    have hc30 : b30 < (xt G L42).1 := by rw [eL42]; exact xt_l _ hc30
    have hk37 : (xt G L42).2.1 b37 = 9 := by rw [eL42]; exact xt_k _ hc37 hk37
    have hc37 : b37 < (xt G L42).1 := by rw [eL42]; exact xt_l _ hc37
    have hk38 : (xt G L42).2.1 b38 = 3 := by rw [eL42]; exact xt_k _ hc38 hk38
    have hc38 : b38 < (xt G L42).1 := by rw [eL42]; exact xt_l _ hc38
    refine lv_aload_n hx hb dX0_writeHeader_80 rfl (lv_at hl 1 rfl) ?_
    refine va_get (D := D) (ci := 0) (v := va_re ad43 (y40.2.2 a 1)) (C := RX0) (T := TX0) (N := 21) hx hb hts (by decide +kernel) hown hK hP a (wld_o ct ad43 (xt G L42) y40.2 hc hk (by decide)) rfl 1 (by decide) (hts (.fieldLink RX0 23 "VideoSuite$Coder" "now" "[I") (by decide +kernel)) (fun _ h9 => h9) rfl dX0_writeHeader_81 ?_
    refine lv_bipush (v := (18 : Int32)) hx hb dX0_writeHeader_84 (by decide) ?_
    obtain ⟨b44, ho44, hc44, hk44, hF⟩ := dr_some hF
    refine W_st (st' := [.int (18 : Int32), .ref (ad43 b44)]) (by rw [va_some ho44]) ?_
    obtain ⟨hvc, hF⟩ := chk_some hF
    refine va_iald hx hb hK hP b44 1 (wld_i ct ad43 (xt G L42) y40.2 hc44 hk44) rfl hvc dX0_writeHeader_86 ?_
    obtain ⟨x45, ex45, hF⟩ := ltt_some hF
    refine lv_topi (fun zx45 ezx45 => ?_)
    obtain rfl : x45 = zx45 := ex45.trans ezx45.symm
    obtain ⟨y46, hy46, hF⟩ := bnd_some hF
    obtain ⟨w47, hF, ew47⟩ := app_some hF
    obtain ⟨L48, eL48, hF⟩ := ltt_some hF
    have hT48 : y.1 = (L42 ++ y46.1) ++ w47.1 := by rw [hT, ew47]; simp only [List.append_assoc]
    have hbl48 : L48.length ≤ y.1.length ∧ wt L48 ≤ wt y.1 := by rw [eL48]; exact room_d hT48 hbl
    have J46 : ∀ (ad49 : Nat → Nat), agr G.1 ad ad49 → ∀ (H : Heap) (locs : List Loc) (ls : Array Slot), va_P D classes (wld ct ad49 (xt G L48) y46.2) H → va_D A (wld ct ad49 (xt G L48) y46.2) → va_S A s.heap H locs → lv_has ls 2 [(1, va_re ad49 (M.2 b3 0)), (0, .ref (ad49 a))] → W p l e (headSpec wsX0_writeHeader ({ frames := 7, cells := y.1.length, slots := wt y.1, locals := 220 })).room s m ([.ref (ad a)] : List Value).toArray below meth c H locs (L48 : NN).length (wt L48) (MQ below (va_Qv (fun (u : Nat → Nat) => agr G.1 ad u) (fun u t => kE D ct u (xt G y.1) A y.2 t) A) ([.ref (ad a)] : List Value).toArray s y.1.length (wt y.1) A) (F0 m 104 ls []) := by
      intro ad49 hag H locs ls hP hD hS hl
      have hT : y.1 = L48 ++ w47.1 := by rw [hT48, eL48]
      have h2 : y.2 = w47.2 := by rw [h2, ew47]
      have hk : (xt G L48).2.1 a = 0 := by rw [eL48]; exact xt_k _ hc hk
      have hc : a < (xt G L48).1 := by rw [eL48]; exact xt_l _ hc
      have hk2 : (xt G L48).2.1 b2 = 9 := by rw [eL48]; exact xt_k _ hc2 hk2
      have hc2 : b2 < (xt G L48).1 := by rw [eL48]; exact xt_l _ hc2
      have hk3 : (xt G L48).2.1 b3 = 3 := by rw [eL48]; exact xt_k _ hc3 hk3
      have hc3 : b3 < (xt G L48).1 := by rw [eL48]; exact xt_l _ hc3
      have hk4 : (xt G L48).2.1 b4 = 13 := by rw [eL48]; exact xt_k _ hc4 hk4
      have hc4 : b4 < (xt G L48).1 := by rw [eL48]; exact xt_l _ hc4
      have hk6 : (xt G L48).2.1 b6 = 10 := by rw [eL48]; exact xt_k _ hc6 hk6
      have hc6 : b6 < (xt G L48).1 := by rw [eL48]; exact xt_l _ hc6
      have hk14 : (xt G L48).2.1 b14 = 10 := by rw [eL48]; exact xt_k _ hc14 hk14
      have hc14 : b14 < (xt G L48).1 := by rw [eL48]; exact xt_l _ hc14
      have hk21 : (xt G L48).2.1 b21 = 10 := by rw [eL48]; exact xt_k _ hc21 hk21
      have hc21 : b21 < (xt G L48).1 := by rw [eL48]; exact xt_l _ hc21
      have hk30 : (xt G L48).2.1 b30 = 10 := by rw [eL48]; exact xt_k _ hc30 hk30
      have hc30 : b30 < (xt G L48).1 := by rw [eL48]; exact xt_l _ hc30
      have hk37 : (xt G L48).2.1 b37 = 9 := by rw [eL48]; exact xt_k _ hc37 hk37
      have hc37 : b37 < (xt G L48).1 := by rw [eL48]; exact xt_l _ hc37
      have hk38 : (xt G L48).2.1 b38 = 3 := by rw [eL48]; exact xt_k _ hc38 hk38
      have hc38 : b38 < (xt G L48).1 := by rw [eL48]; exact xt_l _ hc38
      have hk44 : (xt G L48).2.1 b44 = 13 := by rw [eL48]; exact xt_k _ hc44 hk44
      have hc44 : b44 < (xt G L48).1 := by rw [eL48]; exact xt_l _ hc44
      refine lv_aloadq_n hx hb dX0_writeHeader_104 rfl (lv_at hl 0 rfl) ?_
      refine lv_iconst (v := (1 : Int32)) hx hb dX0_writeHeader_105 (by decide) ?_
      refine W_st (st' := [.int (1 : Int32), .ref (ad49 b4)]) (by rw [va_some ho4]) ?_
      obtain ⟨hvc, hF⟩ := chk_some hF
      refine va_iald hx hb hK hP b4 1 (wld_i ct ad49 (xt G L48) y46.2 hc4 hk4) rfl hvc dX0_writeHeader_106 ?_
      obtain ⟨x50, ex50, hF⟩ := ltt_some hF
      refine lv_topi (fun zx50 ezx50 => ?_)
      obtain rfl : x50 = zx50 := ex50.trans ezx50.symm
      refine lv_iconst (v := (2 : Int32)) hx hb dX0_writeHeader_107 (by decide) ?_
      obtain ⟨y51, hy51, hF⟩ := bnd_some hF
      obtain ⟨w52, hF, ew52⟩ := app_some hF
      obtain ⟨L53, eL53, hF⟩ := ltt_some hF
      have hT53 : y.1 = (L48 ++ y51.1) ++ w52.1 := by rw [hT, ew52]; simp only [List.append_assoc]
      have hbl53 : L53.length ≤ y.1.length ∧ wt L53 ≤ wt y.1 := by rw [eL53]; exact room_d hT53 hbl
      have J51 : ∀ (ad54 : Nat → Nat), agr G.1 ad ad54 → ∀ (H : Heap) (locs : List Loc) (ls : Array Slot), va_P D classes (wld ct ad54 (xt G L53) y51.2) H → va_D A (wld ct ad54 (xt G L53) y51.2) → va_S A s.heap H locs → lv_has ls 2 [(1, va_re ad54 (M.2 b3 0)), (0, .ref (ad54 a))] → W p l e (headSpec wsX0_writeHeader ({ frames := 7, cells := y.1.length, slots := wt y.1, locals := 220 })).room s m ([.ref (ad a)] : List Value).toArray below meth c H locs (L53 : NN).length (wt L53) (MQ below (va_Qv (fun (u : Nat → Nat) => agr G.1 ad u) (fun u t => kE D ct u (xt G y.1) A y.2 t) A) ([.ref (ad a)] : List Value).toArray s y.1.length (wt y.1) A) (F0 m 115 ls []) := by
        intro ad54 hag H locs ls hP hD hS hl
        have hT : y.1 = L53 ++ w52.1 := by rw [hT53, eL53]
        have h2 : y.2 = w52.2 := by rw [h2, ew52]
        have hk : (xt G L53).2.1 a = 0 := by rw [eL53]; exact xt_k _ hc hk
        have hc : a < (xt G L53).1 := by rw [eL53]; exact xt_l _ hc
        have hk2 : (xt G L53).2.1 b2 = 9 := by rw [eL53]; exact xt_k _ hc2 hk2
        have hc2 : b2 < (xt G L53).1 := by rw [eL53]; exact xt_l _ hc2
        have hk3 : (xt G L53).2.1 b3 = 3 := by rw [eL53]; exact xt_k _ hc3 hk3
        have hc3 : b3 < (xt G L53).1 := by rw [eL53]; exact xt_l _ hc3
        have hk4 : (xt G L53).2.1 b4 = 13 := by rw [eL53]; exact xt_k _ hc4 hk4
        have hc4 : b4 < (xt G L53).1 := by rw [eL53]; exact xt_l _ hc4
        have hk6 : (xt G L53).2.1 b6 = 10 := by rw [eL53]; exact xt_k _ hc6 hk6
        have hc6 : b6 < (xt G L53).1 := by rw [eL53]; exact xt_l _ hc6
        have hk14 : (xt G L53).2.1 b14 = 10 := by rw [eL53]; exact xt_k _ hc14 hk14
        have hc14 : b14 < (xt G L53).1 := by rw [eL53]; exact xt_l _ hc14
        have hk21 : (xt G L53).2.1 b21 = 10 := by rw [eL53]; exact xt_k _ hc21 hk21
        have hc21 : b21 < (xt G L53).1 := by rw [eL53]; exact xt_l _ hc21
        have hk30 : (xt G L53).2.1 b30 = 10 := by rw [eL53]; exact xt_k _ hc30 hk30
        have hc30 : b30 < (xt G L53).1 := by rw [eL53]; exact xt_l _ hc30
        have hk37 : (xt G L53).2.1 b37 = 9 := by rw [eL53]; exact xt_k _ hc37 hk37
        have hc37 : b37 < (xt G L53).1 := by rw [eL53]; exact xt_l _ hc37
        have hk38 : (xt G L53).2.1 b38 = 3 := by rw [eL53]; exact xt_k _ hc38 hk38
        have hc38 : b38 < (xt G L53).1 := by rw [eL53]; exact xt_l _ hc38
        have hk44 : (xt G L53).2.1 b44 = 13 := by rw [eL53]; exact xt_k _ hc44 hk44
        have hc44 : b44 < (xt G L53).1 := by rw [eL53]; exact xt_l _ hc44
        refine lv_aloadq_n hx hb dX0_writeHeader_115 rfl (lv_at hl 0 rfl) ?_
        refine lv_iconst (v := (1 : Int32)) hx hb dX0_writeHeader_116 (by decide) ?_
        refine W_st (st' := [.int (1 : Int32), .ref (ad54 b4)]) (by rw [va_some ho4]) ?_
        obtain ⟨hvc, hF⟩ := chk_some hF
        refine va_iald hx hb hK hP b4 1 (wld_i ct ad54 (xt G L53) y51.2 hc4 hk4) rfl hvc dX0_writeHeader_117 ?_
        obtain ⟨x55, ex55, hF⟩ := ltt_some hF
        refine lv_topi (fun zx55 ezx55 => ?_)
        obtain rfl : x55 = zx55 := ex55.trans ezx55.symm
        obtain ⟨y56, hy56, hF⟩ := bnd_some hF
        obtain ⟨w57, hF, ew57⟩ := app_some hF
        obtain ⟨L58, eL58, hF⟩ := ltt_some hF
        have hT58 : y.1 = (L53 ++ y56.1) ++ w57.1 := by rw [hT, ew57]; simp only [List.append_assoc]
        have hbl58 : L58.length ≤ y.1.length ∧ wt L58 ≤ wt y.1 := by rw [eL58]; exact room_d hT58 hbl
        have J56 : ∀ (ad59 : Nat → Nat), agr G.1 ad ad59 → ∀ (H : Heap) (locs : List Loc) (ls : Array Slot), va_P D classes (wld ct ad59 (xt G L58) y56.2) H → va_D A (wld ct ad59 (xt G L58) y56.2) → va_S A s.heap H locs → lv_has ls 2 [(1, va_re ad59 (M.2 b3 0)), (0, .ref (ad59 a))] → W p l e (headSpec wsX0_writeHeader ({ frames := 7, cells := y.1.length, slots := wt y.1, locals := 220 })).room s m ([.ref (ad a)] : List Value).toArray below meth c H locs (L58 : NN).length (wt L58) (MQ below (va_Qv (fun (u : Nat → Nat) => agr G.1 ad u) (fun u t => kE D ct u (xt G y.1) A y.2 t) A) ([.ref (ad a)] : List Value).toArray s y.1.length (wt y.1) A) (F0 m 136 ls []) := by
          intro ad59 hag H locs ls hP hD hS hl
          have hT : y.1 = L58 ++ w57.1 := by rw [hT58, eL58]
          have h2 : y.2 = w57.2 := by rw [h2, ew57]
          have hk : (xt G L58).2.1 a = 0 := by rw [eL58]; exact xt_k _ hc hk
          have hc : a < (xt G L58).1 := by rw [eL58]; exact xt_l _ hc
          have hk2 : (xt G L58).2.1 b2 = 9 := by rw [eL58]; exact xt_k _ hc2 hk2
          have hc2 : b2 < (xt G L58).1 := by rw [eL58]; exact xt_l _ hc2
          have hk3 : (xt G L58).2.1 b3 = 3 := by rw [eL58]; exact xt_k _ hc3 hk3
          have hc3 : b3 < (xt G L58).1 := by rw [eL58]; exact xt_l _ hc3
          have hk4 : (xt G L58).2.1 b4 = 13 := by rw [eL58]; exact xt_k _ hc4 hk4
          have hc4 : b4 < (xt G L58).1 := by rw [eL58]; exact xt_l _ hc4
          have hk6 : (xt G L58).2.1 b6 = 10 := by rw [eL58]; exact xt_k _ hc6 hk6
          have hc6 : b6 < (xt G L58).1 := by rw [eL58]; exact xt_l _ hc6
          have hk14 : (xt G L58).2.1 b14 = 10 := by rw [eL58]; exact xt_k _ hc14 hk14
          have hc14 : b14 < (xt G L58).1 := by rw [eL58]; exact xt_l _ hc14
          have hk21 : (xt G L58).2.1 b21 = 10 := by rw [eL58]; exact xt_k _ hc21 hk21
          have hc21 : b21 < (xt G L58).1 := by rw [eL58]; exact xt_l _ hc21
          have hk30 : (xt G L58).2.1 b30 = 10 := by rw [eL58]; exact xt_k _ hc30 hk30
          have hc30 : b30 < (xt G L58).1 := by rw [eL58]; exact xt_l _ hc30
          have hk37 : (xt G L58).2.1 b37 = 9 := by rw [eL58]; exact xt_k _ hc37 hk37
          have hc37 : b37 < (xt G L58).1 := by rw [eL58]; exact xt_l _ hc37
          have hk38 : (xt G L58).2.1 b38 = 3 := by rw [eL58]; exact xt_k _ hc38 hk38
          have hc38 : b38 < (xt G L58).1 := by rw [eL58]; exact xt_l _ hc38
          have hk44 : (xt G L58).2.1 b44 = 13 := by rw [eL58]; exact xt_k _ hc44 hk44
          have hc44 : b44 < (xt G L58).1 := by rw [eL58]; exact xt_l _ hc44
          refine lv_aloadq_n hx hb dX0_writeHeader_136 rfl (lv_at hl 0 rfl) ?_
          refine lv_bipush (v := (11 : Int32)) hx hb dX0_writeHeader_137 (by decide) ?_
          refine W_st (st' := [.int (11 : Int32), .ref (ad59 b4)]) (by rw [va_some ho4]) ?_
          obtain ⟨hvc, hF⟩ := chk_some hF
          refine va_iald hx hb hK hP b4 1 (wld_i ct ad59 (xt G L58) y56.2 hc4 hk4) rfl hvc dX0_writeHeader_139 ?_
          obtain ⟨x60, ex60, hF⟩ := ltt_some hF
          refine lv_topi (fun zx60 ezx60 => ?_)
          obtain rfl : x60 = zx60 := ex60.trans ezx60.symm
          obtain ⟨y61, hy61, hF⟩ := bnd_some hF
          obtain ⟨w62, hF, ew62⟩ := app_some hF
          obtain ⟨L63, eL63, hF⟩ := ltt_some hF
          have hT63 : y.1 = (L58 ++ y61.1) ++ w62.1 := by rw [hT, ew62]; simp only [List.append_assoc]
          have hbl63 : L63.length ≤ y.1.length ∧ wt L63 ≤ wt y.1 := by rw [eL63]; exact room_d hT63 hbl
          have J61 : ∀ (ad64 : Nat → Nat), agr G.1 ad ad64 → ∀ (H : Heap) (locs : List Loc) (ls : Array Slot), va_P D classes (wld ct ad64 (xt G L63) y61.2) H → va_D A (wld ct ad64 (xt G L63) y61.2) → va_S A s.heap H locs → lv_has ls 2 [(1, va_re ad64 (M.2 b3 0)), (0, .ref (ad64 a))] → W p l e (headSpec wsX0_writeHeader ({ frames := 7, cells := y.1.length, slots := wt y.1, locals := 220 })).room s m ([.ref (ad a)] : List Value).toArray below meth c H locs (L63 : NN).length (wt L63) (MQ below (va_Qv (fun (u : Nat → Nat) => agr G.1 ad u) (fun u t => kE D ct u (xt G y.1) A y.2 t) A) ([.ref (ad a)] : List Value).toArray s y.1.length (wt y.1) A) (F0 m 148 ls []) := by
            intro ad64 hag H locs ls hP hD hS hl
            have hT : y.1 = L63 ++ w62.1 := by rw [hT63, eL63]
            have h2 : y.2 = w62.2 := by rw [h2, ew62]
            have hk : (xt G L63).2.1 a = 0 := by rw [eL63]; exact xt_k _ hc hk
            have hc : a < (xt G L63).1 := by rw [eL63]; exact xt_l _ hc
            have hk2 : (xt G L63).2.1 b2 = 9 := by rw [eL63]; exact xt_k _ hc2 hk2
            have hc2 : b2 < (xt G L63).1 := by rw [eL63]; exact xt_l _ hc2
            have hk3 : (xt G L63).2.1 b3 = 3 := by rw [eL63]; exact xt_k _ hc3 hk3
            have hc3 : b3 < (xt G L63).1 := by rw [eL63]; exact xt_l _ hc3
            have hk4 : (xt G L63).2.1 b4 = 13 := by rw [eL63]; exact xt_k _ hc4 hk4
            have hc4 : b4 < (xt G L63).1 := by rw [eL63]; exact xt_l _ hc4
            have hk6 : (xt G L63).2.1 b6 = 10 := by rw [eL63]; exact xt_k _ hc6 hk6
            have hc6 : b6 < (xt G L63).1 := by rw [eL63]; exact xt_l _ hc6
            have hk14 : (xt G L63).2.1 b14 = 10 := by rw [eL63]; exact xt_k _ hc14 hk14
            have hc14 : b14 < (xt G L63).1 := by rw [eL63]; exact xt_l _ hc14
            have hk21 : (xt G L63).2.1 b21 = 10 := by rw [eL63]; exact xt_k _ hc21 hk21
            have hc21 : b21 < (xt G L63).1 := by rw [eL63]; exact xt_l _ hc21
            have hk30 : (xt G L63).2.1 b30 = 10 := by rw [eL63]; exact xt_k _ hc30 hk30
            have hc30 : b30 < (xt G L63).1 := by rw [eL63]; exact xt_l _ hc30
            have hk37 : (xt G L63).2.1 b37 = 9 := by rw [eL63]; exact xt_k _ hc37 hk37
            have hc37 : b37 < (xt G L63).1 := by rw [eL63]; exact xt_l _ hc37
            have hk38 : (xt G L63).2.1 b38 = 3 := by rw [eL63]; exact xt_k _ hc38 hk38
            have hc38 : b38 < (xt G L63).1 := by rw [eL63]; exact xt_l _ hc38
            have hk44 : (xt G L63).2.1 b44 = 13 := by rw [eL63]; exact xt_k _ hc44 hk44
            have hc44 : b44 < (xt G L63).1 := by rw [eL63]; exact xt_l _ hc44
            refine lv_aload_n hx hb dX0_writeHeader_148 rfl (lv_at hl 1 rfl) ?_
            refine va_get (D := D) (ci := 0) (v := va_re ad64 (y61.2.2 a 3)) (C := RX0) (T := TX0) (N := 21) hx hb hts (by decide +kernel) hown hK hP a (wld_o ct ad64 (xt G L63) y61.2 hc hk (by decide)) rfl 3 (by decide) (hts (.fieldLink RX0 36 "VideoSuite$Coder" "work" "LVideoSuite$Work;") (by decide +kernel)) (fun _ h9 => h9) rfl dX0_writeHeader_149 ?_
            obtain ⟨b65, ho65, hc65, hk65, hF⟩ := dr_some hF
            refine W_st (st' := [.ref (ad64 b65)]) (by rw [va_some ho65]) ?_
            refine va_get (D := D) (ci := 9) (v := va_re ad64 (y61.2.2 b65 1)) (C := RX9) (T := TX9) (N := 20) hx hb hts (by decide +kernel) hown hK hP b65 (wld_o ct ad64 (xt G L63) y61.2 hc65 hk65 (by decide)) rfl 1 (by decide) (hts (.fieldLink RX0 81 "VideoSuite$Work" "head" "LVideoSuite$Header;") (by decide +kernel)) (fun _ h9 => h9) rfl dX0_writeHeader_152 ?_
            obtain ⟨b66, ho66, hc66, hk66, hF⟩ := dr_some hF
            refine W_st (st' := [.ref (ad64 b66)]) (by rw [va_some ho66]) ?_
            obtain ⟨y67, hy67, hF⟩ := bnd_some hF
            have hf9 := wA_in hD hA9 hS
            refine va_calli (va_runV (As := []) (rest := []) ⟨hx, hb, hml, hown, hts⟩ (kX3_isOwn l D ct ad64 Z (xt G L63) y61.2 H.size b66 y67 hc66 hk66 hy67) (cwV 0 hts gX0_writeHeader_X3_isOwn rfl rfl rfl (by decide +kernel) ⟨Nat.le_of_ble_eq_true rfl, Nat.le_of_ble_eq_true rfl⟩) ⟨fun a U g mk q => by obtain ⟨q0, q1, qP, qK, qD, qZ, qN⟩ := q; exact ⟨q0, q1, qP, va_K.moved (u := U) (U := U.calling g mk a) (Vm.Alike.refl U.vm) qK, qD, sF.moved (u := U) (U := U.calling g mk a) (Vm.Alike.refl U.vm) qZ, nF.same rfl qN⟩, va_recv hK hP (ci := 3) (q0 := b66) rfl (wld_o ct ad64 (xt G L63) y61.2 hc66 hk66 (by decide)), fun U hU hW => ⟨rfl, by rw [hU], by rw [hU]; exact hP, va_K.moved hW.alike hK, hD.weaken (fun _ _ _ _ => trivial), by rw [hU]; exact ((hZ.kept hS.2.1).narrow hf9).moved hW.alike, hN.warm hW⟩⟩ rfl rfl hl.1 rfl (lv_room (Nat.le_of_ble_eq_true rfl)) dX0_writeHeader_155 (room_d hT hbl)) hS (fun q _ h => hf9 q h) hf9 (fun r u t H locs ht hvm hw hB hz1 hk1 hS => ?_)
            obtain ⟨hP, hK9, hD9⟩ := hB
            rw [ht] at hP
            try dsimp only at hw
            subst hw
            refine W_cs (k := (L63 : NN).length) (n := wt L63) rfl rfl ?_
            have hD := hD9.weaken (fun _ q _ h => hf9 q.1 h)
            obtain ⟨y68, hy68, hF⟩ := bnd_some hF
            obtain ⟨w69, hF, ew69⟩ := app_some hF
            obtain ⟨L70, eL70, hF⟩ := ltt_some hF
            have hT70 : y.1 = (L63 ++ y68.1) ++ w69.1 := by rw [hT, ew69]; simp only [List.append_assoc]
            have hbl70 : L70.length ≤ y.1.length ∧ wt L70 ≤ wt y.1 := by rw [eL70]; exact room_d hT70 hbl
            have J68 : ∀ (ad71 : Nat → Nat), agr G.1 ad ad71 → ∀ (H : Heap) (locs : List Loc) (ls : Array Slot), va_P D classes (wld ct ad71 (xt G L70) y68.2) H → va_D A (wld ct ad71 (xt G L70) y68.2) → va_S A s.heap H locs → lv_has ls 2 [(1, va_re ad71 (M.2 b3 0)), (0, .ref (ad71 a))] → W p l e (headSpec wsX0_writeHeader ({ frames := 7, cells := y.1.length, slots := wt y.1, locals := 220 })).room s m ([.ref (ad a)] : List Value).toArray below meth c H locs (L70 : NN).length (wt L70) (MQ below (va_Qv (fun (u : Nat → Nat) => agr G.1 ad u) (fun u t => kE D ct u (xt G y.1) A y.2 t) A) ([.ref (ad a)] : List Value).toArray s y.1.length (wt y.1) A) (F0 m 166 ls []) := by
              intro ad71 hag H locs ls hP hD hS hl
              have hT : y.1 = L70 ++ w69.1 := by rw [hT70, eL70]
              have h2 : y.2 = w69.2 := by rw [h2, ew69]
              have hk : (xt G L70).2.1 a = 0 := by rw [eL70]; exact xt_k _ hc hk
              have hc : a < (xt G L70).1 := by rw [eL70]; exact xt_l _ hc
              have hk2 : (xt G L70).2.1 b2 = 9 := by rw [eL70]; exact xt_k _ hc2 hk2
              have hc2 : b2 < (xt G L70).1 := by rw [eL70]; exact xt_l _ hc2
              have hk3 : (xt G L70).2.1 b3 = 3 := by rw [eL70]; exact xt_k _ hc3 hk3
              have hc3 : b3 < (xt G L70).1 := by rw [eL70]; exact xt_l _ hc3
              have hk4 : (xt G L70).2.1 b4 = 13 := by rw [eL70]; exact xt_k _ hc4 hk4
              have hc4 : b4 < (xt G L70).1 := by rw [eL70]; exact xt_l _ hc4
              have hk6 : (xt G L70).2.1 b6 = 10 := by rw [eL70]; exact xt_k _ hc6 hk6
              have hc6 : b6 < (xt G L70).1 := by rw [eL70]; exact xt_l _ hc6
              have hk14 : (xt G L70).2.1 b14 = 10 := by rw [eL70]; exact xt_k _ hc14 hk14
              have hc14 : b14 < (xt G L70).1 := by rw [eL70]; exact xt_l _ hc14
              have hk21 : (xt G L70).2.1 b21 = 10 := by rw [eL70]; exact xt_k _ hc21 hk21
              have hc21 : b21 < (xt G L70).1 := by rw [eL70]; exact xt_l _ hc21
              have hk30 : (xt G L70).2.1 b30 = 10 := by rw [eL70]; exact xt_k _ hc30 hk30
              have hc30 : b30 < (xt G L70).1 := by rw [eL70]; exact xt_l _ hc30
              have hk37 : (xt G L70).2.1 b37 = 9 := by rw [eL70]; exact xt_k _ hc37 hk37
              have hc37 : b37 < (xt G L70).1 := by rw [eL70]; exact xt_l _ hc37
              have hk38 : (xt G L70).2.1 b38 = 3 := by rw [eL70]; exact xt_k _ hc38 hk38
              have hc38 : b38 < (xt G L70).1 := by rw [eL70]; exact xt_l _ hc38
              have hk44 : (xt G L70).2.1 b44 = 13 := by rw [eL70]; exact xt_k _ hc44 hk44
              have hc44 : b44 < (xt G L70).1 := by rw [eL70]; exact xt_l _ hc44
              have hk65 : (xt G L70).2.1 b65 = 9 := by rw [eL70]; exact xt_k _ hc65 hk65
              have hc65 : b65 < (xt G L70).1 := by rw [eL70]; exact xt_l _ hc65
              have hk66 : (xt G L70).2.1 b66 = 3 := by rw [eL70]; exact xt_k _ hc66 hk66
              have hc66 : b66 < (xt G L70).1 := by rw [eL70]; exact xt_l _ hc66
              refine lv_aload_n hx hb dX0_writeHeader_166 rfl (lv_at hl 1 rfl) ?_
              refine va_get (D := D) (ci := 0) (v := va_re ad71 (y68.2.2 a 3)) (C := RX0) (T := TX0) (N := 21) hx hb hts (by decide +kernel) hown hK hP a (wld_o ct ad71 (xt G L70) y68.2 hc hk (by decide)) rfl 3 (by decide) (hts (.fieldLink RX0 36 "VideoSuite$Coder" "work" "LVideoSuite$Work;") (by decide +kernel)) (fun _ h9 => h9) rfl dX0_writeHeader_167 ?_
              obtain ⟨b72, ho72, hc72, hk72, hF⟩ := dr_some hF
              refine W_st (st' := [.ref (ad71 b72)]) (by rw [va_some ho72]) ?_
              refine va_get (D := D) (ci := 9) (v := va_re ad71 (y68.2.2 b72 2)) (C := RX9) (T := TX9) (N := 20) hx hb hts (by decide +kernel) hown hK hP b72 (wld_o ct ad71 (xt G L70) y68.2 hc72 hk72 (by decide)) rfl 2 (by decide) (hts (.fieldLink RX0 85 "VideoSuite$Work" "par" "[I") (by decide +kernel)) (fun _ h9 => h9) rfl dX0_writeHeader_170 ?_
              refine lv_iconst (v := (1 : Int32)) hx hb dX0_writeHeader_173 (by decide) ?_
              obtain ⟨b73, ho73, hc73, hk73, hF⟩ := dr_some hF
              refine W_st (st' := [.int (1 : Int32), .ref (ad71 b73)]) (by rw [va_some ho73]) ?_
              obtain ⟨hvc, hF⟩ := chk_some hF
              refine va_iald hx hb hK hP b73 1 (wld_i ct ad71 (xt G L70) y68.2 hc73 hk73) rfl hvc dX0_writeHeader_174 ?_
              obtain ⟨x74, ex74, hF⟩ := ltt_some hF
              refine lv_topi (fun zx74 ezx74 => ?_)
              obtain rfl : x74 = zx74 := ex74.trans ezx74.symm
              refine lv_iconst (v := (1 : Int32)) hx hb dX0_writeHeader_175 (by decide) ?_
              obtain ⟨y75, hy75, hF⟩ := bnd_some hF
              obtain ⟨w76, hF, ew76⟩ := app_some hF
              obtain ⟨L77, eL77, hF⟩ := ltt_some hF
              have hT77 : y.1 = (L70 ++ y75.1) ++ w76.1 := by rw [hT, ew76]; simp only [List.append_assoc]
              have hbl77 : L77.length ≤ y.1.length ∧ wt L77 ≤ wt y.1 := by rw [eL77]; exact room_d hT77 hbl
              have J75 : ∀ (ad78 : Nat → Nat), agr G.1 ad ad78 → ∀ (H : Heap) (locs : List Loc) (ls : Array Slot), va_P D classes (wld ct ad78 (xt G L77) y75.2) H → va_D A (wld ct ad78 (xt G L77) y75.2) → va_S A s.heap H locs → lv_has ls 2 [(1, va_re ad78 (M.2 b3 0)), (0, .ref (ad78 a))] → W p l e (headSpec wsX0_writeHeader ({ frames := 7, cells := y.1.length, slots := wt y.1, locals := 220 })).room s m ([.ref (ad a)] : List Value).toArray below meth c H locs (L77 : NN).length (wt L77) (MQ below (va_Qv (fun (u : Nat → Nat) => agr G.1 ad u) (fun u t => kE D ct u (xt G y.1) A y.2 t) A) ([.ref (ad a)] : List Value).toArray s y.1.length (wt y.1) A) (F0 m 195 ls []) := by
                intro ad78 hag H locs ls hP hD hS hl
                have hT : y.1 = L77 ++ w76.1 := by rw [hT77, eL77]
                have h2 : y.2 = w76.2 := by rw [h2, ew76]
                have hk : (xt G L77).2.1 a = 0 := by rw [eL77]; exact xt_k _ hc hk
                have hc : a < (xt G L77).1 := by rw [eL77]; exact xt_l _ hc
                have hk2 : (xt G L77).2.1 b2 = 9 := by rw [eL77]; exact xt_k _ hc2 hk2
                have hc2 : b2 < (xt G L77).1 := by rw [eL77]; exact xt_l _ hc2
                have hk3 : (xt G L77).2.1 b3 = 3 := by rw [eL77]; exact xt_k _ hc3 hk3
                have hc3 : b3 < (xt G L77).1 := by rw [eL77]; exact xt_l _ hc3
                have hk4 : (xt G L77).2.1 b4 = 13 := by rw [eL77]; exact xt_k _ hc4 hk4
                have hc4 : b4 < (xt G L77).1 := by rw [eL77]; exact xt_l _ hc4
                have hk6 : (xt G L77).2.1 b6 = 10 := by rw [eL77]; exact xt_k _ hc6 hk6
                have hc6 : b6 < (xt G L77).1 := by rw [eL77]; exact xt_l _ hc6
                have hk14 : (xt G L77).2.1 b14 = 10 := by rw [eL77]; exact xt_k _ hc14 hk14
                have hc14 : b14 < (xt G L77).1 := by rw [eL77]; exact xt_l _ hc14
                have hk21 : (xt G L77).2.1 b21 = 10 := by rw [eL77]; exact xt_k _ hc21 hk21
                have hc21 : b21 < (xt G L77).1 := by rw [eL77]; exact xt_l _ hc21
                have hk30 : (xt G L77).2.1 b30 = 10 := by rw [eL77]; exact xt_k _ hc30 hk30
                have hc30 : b30 < (xt G L77).1 := by rw [eL77]; exact xt_l _ hc30
                have hk37 : (xt G L77).2.1 b37 = 9 := by rw [eL77]; exact xt_k _ hc37 hk37
                have hc37 : b37 < (xt G L77).1 := by rw [eL77]; exact xt_l _ hc37
                have hk38 : (xt G L77).2.1 b38 = 3 := by rw [eL77]; exact xt_k _ hc38 hk38
                have hc38 : b38 < (xt G L77).1 := by rw [eL77]; exact xt_l _ hc38
                have hk44 : (xt G L77).2.1 b44 = 13 := by rw [eL77]; exact xt_k _ hc44 hk44
                have hc44 : b44 < (xt G L77).1 := by rw [eL77]; exact xt_l _ hc44
                have hk65 : (xt G L77).2.1 b65 = 9 := by rw [eL77]; exact xt_k _ hc65 hk65
                have hc65 : b65 < (xt G L77).1 := by rw [eL77]; exact xt_l _ hc65
                have hk66 : (xt G L77).2.1 b66 = 3 := by rw [eL77]; exact xt_k _ hc66 hk66
                have hc66 : b66 < (xt G L77).1 := by rw [eL77]; exact xt_l _ hc66
                have hk72 : (xt G L77).2.1 b72 = 9 := by rw [eL77]; exact xt_k _ hc72 hk72
                have hc72 : b72 < (xt G L77).1 := by rw [eL77]; exact xt_l _ hc72
                have hk73 : (xt G L77).2.1 b73 = 13 := by rw [eL77]; exact xt_k _ hc73 hk73
                have hc73 : b73 < (xt G L77).1 := by rw [eL77]; exact xt_l _ hc73
                refine lv_aload_n hx hb dX0_writeHeader_195 rfl (lv_at hl 1 rfl) ?_
                refine va_get (D := D) (ci := 0) (v := va_re ad78 (y75.2.2 a 2)) (C := RX0) (T := TX0) (N := 21) hx hb hts (by decide +kernel) hown hK hP a (wld_o ct ad78 (xt G L77) y75.2 hc hk (by decide)) rfl 2 (by decide) (hts (.fieldLink RX0 29 "VideoSuite$Coder" "writer" "LVideoSuite$Writer;") (by decide +kernel)) (fun _ h9 => h9) rfl dX0_writeHeader_196 ?_
                refine lv_iconst (v := (0 : Int32)) hx hb dX0_writeHeader_199 (by decide) ?_
                refine lv_aloadq_n hx hb dX0_writeHeader_200 rfl (lv_at hl 0 rfl) ?_
                refine lv_bipush (v := (12 : Int32)) hx hb dX0_writeHeader_201 (by decide) ?_
                refine W_st (st' := [.int (12 : Int32), .ref (ad78 b4), .int (0 : Int32), va_re ad78 (y75.2.2 a 2)]) (by rw [va_some ho4]) ?_
                obtain ⟨hvc, hF⟩ := chk_some hF
                refine va_iald hx hb hK hP b4 1 (wld_i ct ad78 (xt G L77) y75.2 hc4 hk4) rfl hvc dX0_writeHeader_203 ?_
                obtain ⟨x79, ex79, hF⟩ := ltt_some hF
                refine lv_topi (fun zx79 ezx79 => ?_)
                obtain rfl : x79 = zx79 := ex79.trans ezx79.symm
                refine lv_aload_n hx hb dX0_writeHeader_204 rfl (lv_at hl 1 rfl) ?_
                refine va_get (D := D) (ci := 0) (v := va_re ad78 (y75.2.2 a 1)) (C := RX0) (T := TX0) (N := 21) hx hb hts (by decide +kernel) hown hK hP a (wld_o ct ad78 (xt G L77) y75.2 hc hk (by decide)) rfl 1 (by decide) (hts (.fieldLink RX0 23 "VideoSuite$Coder" "now" "[I") (by decide +kernel)) (fun _ h9 => h9) rfl dX0_writeHeader_205 ?_
                refine lv_iconst (v := (3 : Int32)) hx hb dX0_writeHeader_208 (by decide) ?_
                obtain ⟨b80, ho80, hc80, hk80, hF⟩ := dr_some hF
                refine W_st (st' := [.int (3 : Int32), .ref (ad78 b80), .int x79, .int (0 : Int32), va_re ad78 (y75.2.2 a 2)]) (by rw [va_some ho80]) ?_
                obtain ⟨hvc, hF⟩ := chk_some hF
                refine va_iald hx hb hK hP b80 1 (wld_i ct ad78 (xt G L77) y75.2 hc80 hk80) rfl hvc dX0_writeHeader_209 ?_
                obtain ⟨x81, ex81, hF⟩ := ltt_some hF
                refine lv_topi (fun zx81 ezx81 => ?_)
                obtain rfl : x81 = zx81 := ex81.trans ezx81.symm
                refine lv_isub hx hb dX0_writeHeader_210 ?_
                obtain ⟨x82, ex82, hF⟩ := ltt_some hF
                refine lv_topi (fun zx82 ezx82 => ?_)
                obtain rfl : x82 = zx82 := ex82.trans ezx82.symm
                obtain ⟨b83, ho83, hc83, hk83, hF⟩ := dr_some hF
                refine W_st (st' := [.int x82, .int (0 : Int32), .ref (ad78 b83)]) (by rw [va_some ho83]) ?_
                obtain ⟨hq85, hF⟩ := chk_some hF
                obtain ⟨y84, hy84, hF⟩ := bnd_some hF
                obtain ⟨w86, hF, ew86⟩ := app_some hF
                obtain ⟨L87, eL87, hF⟩ := ltt_some hF
                have hT87 : y.1 = (L77 ++ y84.1) ++ w86.1 := by rw [hT, ew86]; simp only [List.append_assoc]
                have hf9 := wA_in hD hA9 hS
                refine va_callv (va_runV (As := [.int (0 : Int32), .int x82]) (rest := []) ⟨hx, hb, hml, hown, hts⟩ (kX10_se l D ct ad78 Z (xt G L77) y75.2 _ b83 ((0 : Int32)) x82 y84 hc83 hk83 hy84) (cwV 2 hts gX0_writeHeader_X10_se rfl rfl rfl (by decide +kernel) ⟨Nat.le_of_ble_eq_true rfl, Nat.le_of_ble_eq_true rfl⟩) ⟨fun a U g mk q => by obtain ⟨q0, q1, qP, qK, qD, qZ, qN⟩ := q; exact ⟨q0, q1, qP, va_K.moved (u := U) (U := U.calling g mk a) (Vm.Alike.refl U.vm) qK, qD, sF.moved (u := U) (U := U.calling g mk a) (Vm.Alike.refl U.vm) qZ, nF.same rfl qN⟩, va_recv hK hP (ci := 10) (q0 := b83) rfl (wld_o ct ad78 (xt G L77) y75.2 hc83 hk83 (by decide)), fun U hU hW => ⟨rfl, by rw [hU], by rw [hU]; exact hP, va_K.moved hW.alike hK, hD.weaken (fun _ _ _ _ => trivial), by rw [hU]; exact ((hZ.kept hS.2.1).narrow hf9).moved hW.alike, hN.warm hW⟩⟩ rfl rfl hl.1 rfl (lv_room (Nat.le_of_ble_eq_true rfl)) dX0_writeHeader_211 (room_s hT87 hbl)) hS (fun q _ h => hf9 q h) hf9 (fun ad88 t H locs ht hvm hw hB hz1 hk1 hS => ?_)
                have hn89 := hw
                obtain ⟨hP, hK9, hD9⟩ := hB
                rw [ht] at hP
                have hD := hD9.weaken (fun _ q _ h => hf9 q.1 h)
                rw [xt_xt, ← eL87] at hP hD
                refine W_cs (k := L87.length) (n := wt L87) (by rw [eL87]; exact (len_s L77 y84.1).symm) (by rw [eL87]; exact (wt_app L77 y84.1).symm) ?_
                have hT : y.1 = L87 ++ w86.1 := by rw [hT87, eL87]
                have h2 : y.2 = w86.2 := by rw [h2, ew86]
                have hl := lv_sub (l' := [(1, va_re ad78 (M.2 b3 0)), (0, .ref (ad78 a))]) hl [0, 1] rfl
                have e9 : ([(1, va_re ad78 (M.2 b3 0)), (0, .ref (ad78 a))] : List (Nat × Value)) = [(1, va_re ad88 (M.2 b3 0)), (0, .ref (ad88 a))] := (by first | rfl | simp only [agr_re hn89 hq85, hn89 a hc])
                rw [e9] at hl
                clear e9
                have hk : (xt G L87).2.1 a = 0 := by rw [eL87]; exact xt_k _ hc hk
                have hc : a < (xt G L87).1 := by rw [eL87]; exact xt_l _ hc
                have hk2 : (xt G L87).2.1 b2 = 9 := by rw [eL87]; exact xt_k _ hc2 hk2
                have hc2 : b2 < (xt G L87).1 := by rw [eL87]; exact xt_l _ hc2
                have hk3 : (xt G L87).2.1 b3 = 3 := by rw [eL87]; exact xt_k _ hc3 hk3
                have hc3 : b3 < (xt G L87).1 := by rw [eL87]; exact xt_l _ hc3
                have hk4 : (xt G L87).2.1 b4 = 13 := by rw [eL87]; exact xt_k _ hc4 hk4
                have hc4 : b4 < (xt G L87).1 := by rw [eL87]; exact xt_l _ hc4
                have hk6 : (xt G L87).2.1 b6 = 10 := by rw [eL87]; exact xt_k _ hc6 hk6
                have hc6 : b6 < (xt G L87).1 := by rw [eL87]; exact xt_l _ hc6
                have hk14 : (xt G L87).2.1 b14 = 10 := by rw [eL87]; exact xt_k _ hc14 hk14
                have hc14 : b14 < (xt G L87).1 := by rw [eL87]; exact xt_l _ hc14
                have hk21 : (xt G L87).2.1 b21 = 10 := by rw [eL87]; exact xt_k _ hc21 hk21
                have hc21 : b21 < (xt G L87).1 := by rw [eL87]; exact xt_l _ hc21
                have hk30 : (xt G L87).2.1 b30 = 10 := by rw [eL87]; exact xt_k _ hc30 hk30
                have hc30 : b30 < (xt G L87).1 := by rw [eL87]; exact xt_l _ hc30
                have hk37 : (xt G L87).2.1 b37 = 9 := by rw [eL87]; exact xt_k _ hc37 hk37
                have hc37 : b37 < (xt G L87).1 := by rw [eL87]; exact xt_l _ hc37
                have hk38 : (xt G L87).2.1 b38 = 3 := by rw [eL87]; exact xt_k _ hc38 hk38
                have hc38 : b38 < (xt G L87).1 := by rw [eL87]; exact xt_l _ hc38
                have hk44 : (xt G L87).2.1 b44 = 13 := by rw [eL87]; exact xt_k _ hc44 hk44
                have hc44 : b44 < (xt G L87).1 := by rw [eL87]; exact xt_l _ hc44
                have hk65 : (xt G L87).2.1 b65 = 9 := by rw [eL87]; exact xt_k _ hc65 hk65
                have hc65 : b65 < (xt G L87).1 := by rw [eL87]; exact xt_l _ hc65
                have hk66 : (xt G L87).2.1 b66 = 3 := by rw [eL87]; exact xt_k _ hc66 hk66
                have hc66 : b66 < (xt G L87).1 := by rw [eL87]; exact xt_l _ hc66
                have hk72 : (xt G L87).2.1 b72 = 9 := by rw [eL87]; exact xt_k _ hc72 hk72
                have hc72 : b72 < (xt G L87).1 := by rw [eL87]; exact xt_l _ hc72
                have hk73 : (xt G L87).2.1 b73 = 13 := by rw [eL87]; exact xt_k _ hc73 hk73
                have hc73 : b73 < (xt G L87).1 := by rw [eL87]; exact xt_l _ hc73
                have hk80 : (xt G L87).2.1 b80 = 13 := by rw [eL87]; exact xt_k _ hc80 hk80
                have hc80 : b80 < (xt G L87).1 := by rw [eL87]; exact xt_l _ hc80
                have hk83 : (xt G L87).2.1 b83 = 10 := by rw [eL87]; exact xt_k _ hc83 hk83
                have hc83 : b83 < (xt G L87).1 := by rw [eL87]; exact xt_l _ hc83
                have hag := agr_t (xt_ge _ _) hag hn89
                refine lv_aload_n hx hb dX0_writeHeader_214 rfl (lv_at hl 1 rfl) ?_
                refine va_get (D := D) (ci := 0) (v := va_re ad88 (y84.2.2 a 2)) (C := RX0) (T := TX0) (N := 21) hx hb hts (by decide +kernel) hown hK hP a (wld_o ct ad88 (xt G L87) y84.2 hc hk (by decide)) rfl 2 (by decide) (hts (.fieldLink RX0 29 "VideoSuite$Coder" "writer" "LVideoSuite$Writer;") (by decide +kernel)) (fun _ h9 => h9) rfl dX0_writeHeader_215 ?_
                refine lv_iconst (v := (0 : Int32)) hx hb dX0_writeHeader_218 (by decide) ?_
                refine lv_aloadq_n hx hb dX0_writeHeader_219 rfl (lv_at hl 0 rfl) ?_
                refine lv_bipush (v := (13 : Int32)) hx hb dX0_writeHeader_220 (by decide) ?_
                refine W_st (st' := [.int (13 : Int32), .ref (ad88 b4), .int (0 : Int32), va_re ad88 (y84.2.2 a 2)]) (by rw [va_some ho4]) ?_
                obtain ⟨hvc, hF⟩ := chk_some hF
                refine va_iald hx hb hK hP b4 1 (wld_i ct ad88 (xt G L87) y84.2 hc4 hk4) rfl hvc dX0_writeHeader_222 ?_
                obtain ⟨x90, ex90, hF⟩ := ltt_some hF
                refine lv_topi (fun zx90 ezx90 => ?_)
                obtain rfl : x90 = zx90 := ex90.trans ezx90.symm
                obtain ⟨b91, ho91, hc91, hk91, hF⟩ := dr_some hF
                refine W_st (st' := [.int x90, .int (0 : Int32), .ref (ad88 b91)]) (by rw [va_some ho91]) ?_
                obtain ⟨hq93, hF⟩ := chk_some hF
                obtain ⟨y92, hy92, hF⟩ := bnd_some hF
                obtain ⟨w94, hF, ew94⟩ := app_some hF
                obtain ⟨L95, eL95, hF⟩ := ltt_some hF
                have hT95 : y.1 = (L87 ++ y92.1) ++ w94.1 := by rw [hT, ew94]; simp only [List.append_assoc]
                have hf9 := wA_in hD hA9 hS
                refine va_callv (va_runV (As := [.int (0 : Int32), .int x90]) (rest := []) ⟨hx, hb, hml, hown, hts⟩ (kX10_ue l D ct ad88 Z (xt G L87) y84.2 _ b91 ((0 : Int32)) x90 y92 hc91 hk91 hy92) (cwV 2 hts gX0_writeHeader_X10_ue rfl rfl rfl (by decide +kernel) ⟨Nat.le_of_ble_eq_true rfl, Nat.le_of_ble_eq_true rfl⟩) ⟨fun a U g mk q => by obtain ⟨q0, q1, qP, qK, qD, qZ, qN⟩ := q; exact ⟨q0, q1, qP, va_K.moved (u := U) (U := U.calling g mk a) (Vm.Alike.refl U.vm) qK, qD, sF.moved (u := U) (U := U.calling g mk a) (Vm.Alike.refl U.vm) qZ, nF.same rfl qN⟩, va_recv hK hP (ci := 10) (q0 := b91) rfl (wld_o ct ad88 (xt G L87) y84.2 hc91 hk91 (by decide)), fun U hU hW => ⟨rfl, by rw [hU], by rw [hU]; exact hP, va_K.moved hW.alike hK, hD.weaken (fun _ _ _ _ => trivial), by rw [hU]; exact ((hZ.kept hS.2.1).narrow hf9).moved hW.alike, hN.warm hW⟩⟩ rfl rfl hl.1 rfl (lv_room (Nat.le_of_ble_eq_true rfl)) dX0_writeHeader_223 (room_s hT95 hbl)) hS (fun q _ h => hf9 q h) hf9 (fun ad96 t H locs ht hvm hw hB hz1 hk1 hS => ?_)
                have hn97 := hw
                obtain ⟨hP, hK9, hD9⟩ := hB
                rw [ht] at hP
                have hD := hD9.weaken (fun _ q _ h => hf9 q.1 h)
                rw [xt_xt, ← eL95] at hP hD
                refine W_cs (k := L95.length) (n := wt L95) (by rw [eL95]; exact (len_s L87 y92.1).symm) (by rw [eL95]; exact (wt_app L87 y92.1).symm) ?_
                have hT : y.1 = L95 ++ w94.1 := by rw [hT95, eL95]
                have h2 : y.2 = w94.2 := by rw [h2, ew94]
                have hl := lv_sub (l' := [(1, va_re ad88 (M.2 b3 0)), (0, .ref (ad88 a))]) hl [0, 1] rfl
                have e9 : ([(1, va_re ad88 (M.2 b3 0)), (0, .ref (ad88 a))] : List (Nat × Value)) = [(1, va_re ad96 (M.2 b3 0)), (0, .ref (ad96 a))] := (by first | rfl | simp only [agr_re hn97 hq93, hn97 a hc])
                rw [e9] at hl
                clear e9
                have hk : (xt G L95).2.1 a = 0 := by rw [eL95]; exact xt_k _ hc hk
                have hc : a < (xt G L95).1 := by rw [eL95]; exact xt_l _ hc
                have hk2 : (xt G L95).2.1 b2 = 9 := by rw [eL95]; exact xt_k _ hc2 hk2
                have hc2 : b2 < (xt G L95).1 := by rw [eL95]; exact xt_l _ hc2
                have hk3 : (xt G L95).2.1 b3 = 3 := by rw [eL95]; exact xt_k _ hc3 hk3
                have hc3 : b3 < (xt G L95).1 := by rw [eL95]; exact xt_l _ hc3
                have hk4 : (xt G L95).2.1 b4 = 13 := by rw [eL95]; exact xt_k _ hc4 hk4
                have hc4 : b4 < (xt G L95).1 := by rw [eL95]; exact xt_l _ hc4
                have hk6 : (xt G L95).2.1 b6 = 10 := by rw [eL95]; exact xt_k _ hc6 hk6
                have hc6 : b6 < (xt G L95).1 := by rw [eL95]; exact xt_l _ hc6
                have hk14 : (xt G L95).2.1 b14 = 10 := by rw [eL95]; exact xt_k _ hc14 hk14
                have hc14 : b14 < (xt G L95).1 := by rw [eL95]; exact xt_l _ hc14
                have hk21 : (xt G L95).2.1 b21 = 10 := by rw [eL95]; exact xt_k _ hc21 hk21
                have hc21 : b21 < (xt G L95).1 := by rw [eL95]; exact xt_l _ hc21
                have hk30 : (xt G L95).2.1 b30 = 10 := by rw [eL95]; exact xt_k _ hc30 hk30
                have hc30 : b30 < (xt G L95).1 := by rw [eL95]; exact xt_l _ hc30
                have hk37 : (xt G L95).2.1 b37 = 9 := by rw [eL95]; exact xt_k _ hc37 hk37
                have hc37 : b37 < (xt G L95).1 := by rw [eL95]; exact xt_l _ hc37
                have hk38 : (xt G L95).2.1 b38 = 3 := by rw [eL95]; exact xt_k _ hc38 hk38
                have hc38 : b38 < (xt G L95).1 := by rw [eL95]; exact xt_l _ hc38
                have hk44 : (xt G L95).2.1 b44 = 13 := by rw [eL95]; exact xt_k _ hc44 hk44
                have hc44 : b44 < (xt G L95).1 := by rw [eL95]; exact xt_l _ hc44
                have hk65 : (xt G L95).2.1 b65 = 9 := by rw [eL95]; exact xt_k _ hc65 hk65
                have hc65 : b65 < (xt G L95).1 := by rw [eL95]; exact xt_l _ hc65
                have hk66 : (xt G L95).2.1 b66 = 3 := by rw [eL95]; exact xt_k _ hc66 hk66
                have hc66 : b66 < (xt G L95).1 := by rw [eL95]; exact xt_l _ hc66
                have hk72 : (xt G L95).2.1 b72 = 9 := by rw [eL95]; exact xt_k _ hc72 hk72
                have hc72 : b72 < (xt G L95).1 := by rw [eL95]; exact xt_l _ hc72
                have hk73 : (xt G L95).2.1 b73 = 13 := by rw [eL95]; exact xt_k _ hc73 hk73
                have hc73 : b73 < (xt G L95).1 := by rw [eL95]; exact xt_l _ hc73
                have hk80 : (xt G L95).2.1 b80 = 13 := by rw [eL95]; exact xt_k _ hc80 hk80
                have hc80 : b80 < (xt G L95).1 := by rw [eL95]; exact xt_l _ hc80
                have hk83 : (xt G L95).2.1 b83 = 10 := by rw [eL95]; exact xt_k _ hc83 hk83
                have hc83 : b83 < (xt G L95).1 := by rw [eL95]; exact xt_l _ hc83
                have hk91 : (xt G L95).2.1 b91 = 10 := by rw [eL95]; exact xt_k _ hc91 hk91
                have hc91 : b91 < (xt G L95).1 := by rw [eL95]; exact xt_l _ hc91
                have hag := agr_t (xt_ge _ _) hag hn97
                refine lv_aloadq_n hx hb dX0_writeHeader_226 rfl (lv_at hl 0 rfl) ?_
                refine lv_bipush (v := (13 : Int32)) hx hb dX0_writeHeader_227 (by decide) ?_
                refine W_st (st' := [.int (13 : Int32), .ref (ad96 b4)]) (by rw [va_some ho4]) ?_
                obtain ⟨hvc, hF⟩ := chk_some hF
                refine va_iald hx hb hK hP b4 1 (wld_i ct ad96 (xt G L95) y92.2 hc4 hk4) rfl hvc dX0_writeHeader_229 ?_
                obtain ⟨x98, ex98, hF⟩ := ltt_some hF
                refine lv_topi (fun zx98 ezx98 => ?_)
                obtain rfl : x98 = zx98 := ex98.trans ezx98.symm
                refine lv_iconst (v := (1 : Int32)) hx hb dX0_writeHeader_230 (by decide) ?_
                obtain ⟨y99, hy99, hF⟩ := bnd_some hF
                obtain ⟨w100, hF, ew100⟩ := app_some hF
                obtain ⟨L101, eL101, hF⟩ := ltt_some hF
                have hT101 : y.1 = (L95 ++ y99.1) ++ w100.1 := by rw [hT, ew100]; simp only [List.append_assoc]
                have hbl101 : L101.length ≤ y.1.length ∧ wt L101 ≤ wt y.1 := by rw [eL101]; exact room_d hT101 hbl
                have J99 : ∀ (ad102 : Nat → Nat), agr G.1 ad ad102 → ∀ (H : Heap) (locs : List Loc) (ls : Array Slot), va_P D classes (wld ct ad102 (xt G L101) y99.2) H → va_D A (wld ct ad102 (xt G L101) y99.2) → va_S A s.heap H locs → lv_has ls 2 [(0, .ref (ad102 a))] → W p l e (headSpec wsX0_writeHeader ({ frames := 7, cells := y.1.length, slots := wt y.1, locals := 220 })).room s m ([.ref (ad a)] : List Value).toArray below meth c H locs (L101 : NN).length (wt L101) (MQ below (va_Qv (fun (u : Nat → Nat) => agr G.1 ad u) (fun u t => kE D ct u (xt G y.1) A y.2 t) A) ([.ref (ad a)] : List Value).toArray s y.1.length (wt y.1) A) (F0 m 258 ls []) := by
                  intro ad102 hag H locs ls hP hD hS hl
                  have hT : y.1 = L101 ++ w100.1 := by rw [hT101, eL101]
                  have h2 : y.2 = w100.2 := by rw [h2, ew100]
                  have hk : (xt G L101).2.1 a = 0 := by rw [eL101]; exact xt_k _ hc hk
                  have hc : a < (xt G L101).1 := by rw [eL101]; exact xt_l _ hc
                  have hk2 : (xt G L101).2.1 b2 = 9 := by rw [eL101]; exact xt_k _ hc2 hk2
                  have hc2 : b2 < (xt G L101).1 := by rw [eL101]; exact xt_l _ hc2
                  have hk3 : (xt G L101).2.1 b3 = 3 := by rw [eL101]; exact xt_k _ hc3 hk3
                  have hc3 : b3 < (xt G L101).1 := by rw [eL101]; exact xt_l _ hc3
                  have hk4 : (xt G L101).2.1 b4 = 13 := by rw [eL101]; exact xt_k _ hc4 hk4
                  have hc4 : b4 < (xt G L101).1 := by rw [eL101]; exact xt_l _ hc4
                  have hk6 : (xt G L101).2.1 b6 = 10 := by rw [eL101]; exact xt_k _ hc6 hk6
                  have hc6 : b6 < (xt G L101).1 := by rw [eL101]; exact xt_l _ hc6
                  have hk14 : (xt G L101).2.1 b14 = 10 := by rw [eL101]; exact xt_k _ hc14 hk14
                  have hc14 : b14 < (xt G L101).1 := by rw [eL101]; exact xt_l _ hc14
                  have hk21 : (xt G L101).2.1 b21 = 10 := by rw [eL101]; exact xt_k _ hc21 hk21
                  have hc21 : b21 < (xt G L101).1 := by rw [eL101]; exact xt_l _ hc21
                  have hk30 : (xt G L101).2.1 b30 = 10 := by rw [eL101]; exact xt_k _ hc30 hk30
                  have hc30 : b30 < (xt G L101).1 := by rw [eL101]; exact xt_l _ hc30
                  have hk37 : (xt G L101).2.1 b37 = 9 := by rw [eL101]; exact xt_k _ hc37 hk37
                  have hc37 : b37 < (xt G L101).1 := by rw [eL101]; exact xt_l _ hc37
                  have hk38 : (xt G L101).2.1 b38 = 3 := by rw [eL101]; exact xt_k _ hc38 hk38
                  have hc38 : b38 < (xt G L101).1 := by rw [eL101]; exact xt_l _ hc38
                  have hk44 : (xt G L101).2.1 b44 = 13 := by rw [eL101]; exact xt_k _ hc44 hk44
                  have hc44 : b44 < (xt G L101).1 := by rw [eL101]; exact xt_l _ hc44
                  have hk65 : (xt G L101).2.1 b65 = 9 := by rw [eL101]; exact xt_k _ hc65 hk65
                  have hc65 : b65 < (xt G L101).1 := by rw [eL101]; exact xt_l _ hc65
                  have hk66 : (xt G L101).2.1 b66 = 3 := by rw [eL101]; exact xt_k _ hc66 hk66
                  have hc66 : b66 < (xt G L101).1 := by rw [eL101]; exact xt_l _ hc66
                  have hk72 : (xt G L101).2.1 b72 = 9 := by rw [eL101]; exact xt_k _ hc72 hk72
                  have hc72 : b72 < (xt G L101).1 := by rw [eL101]; exact xt_l _ hc72
                  have hk73 : (xt G L101).2.1 b73 = 13 := by rw [eL101]; exact xt_k _ hc73 hk73
                  have hc73 : b73 < (xt G L101).1 := by rw [eL101]; exact xt_l _ hc73
                  have hk80 : (xt G L101).2.1 b80 = 13 := by rw [eL101]; exact xt_k _ hc80 hk80
                  have hc80 : b80 < (xt G L101).1 := by rw [eL101]; exact xt_l _ hc80
                  have hk83 : (xt G L101).2.1 b83 = 10 := by rw [eL101]; exact xt_k _ hc83 hk83
                  have hc83 : b83 < (xt G L101).1 := by rw [eL101]; exact xt_l _ hc83
                  have hk91 : (xt G L101).2.1 b91 = 10 := by rw [eL101]; exact xt_k _ hc91 hk91
                  have hc91 : b91 < (xt G L101).1 := by rw [eL101]; exact xt_l _ hc91
                  refine lv_aload_n hx hb dX0_writeHeader_258 rfl (lv_at hl 0 rfl) ?_
                  refine va_get (D := D) (ci := 0) (v := va_re ad102 (y99.2.2 a 3)) (C := RX0) (T := TX0) (N := 21) hx hb hts (by decide +kernel) hown hK hP a (wld_o ct ad102 (xt G L101) y99.2 hc hk (by decide)) rfl 3 (by decide) (hts (.fieldLink RX0 36 "VideoSuite$Coder" "work" "LVideoSuite$Work;") (by decide +kernel)) (fun _ h9 => h9) rfl dX0_writeHeader_259 ?_
                  obtain ⟨b103, ho103, hc103, hk103, hF⟩ := dr_some hF
                  refine W_st (st' := [.ref (ad102 b103)]) (by rw [va_some ho103]) ?_
                  refine va_get (D := D) (ci := 9) (v := va_re ad102 (y99.2.2 b103 2)) (C := RX9) (T := TX9) (N := 20) hx hb hts (by decide +kernel) hown hK hP b103 (wld_o ct ad102 (xt G L101) y99.2 hc103 hk103 (by decide)) rfl 2 (by decide) (hts (.fieldLink RX0 85 "VideoSuite$Work" "par" "[I") (by decide +kernel)) (fun _ h9 => h9) rfl dX0_writeHeader_262 ?_
                  refine lv_iconst (v := (1 : Int32)) hx hb dX0_writeHeader_265 (by decide) ?_
                  obtain ⟨b104, ho104, hc104, hk104, hF⟩ := dr_some hF
                  refine W_st (st' := [.int (1 : Int32), .ref (ad102 b104)]) (by rw [va_some ho104]) ?_
                  obtain ⟨hvc, hF⟩ := chk_some hF
                  refine va_iald hx hb hK hP b104 1 (wld_i ct ad102 (xt G L101) y99.2 hc104 hk104) rfl hvc dX0_writeHeader_266 ?_
                  obtain ⟨x105, ex105, hF⟩ := ltt_some hF
                  refine lv_topi (fun zx105 ezx105 => ?_)
                  obtain rfl : x105 = zx105 := ex105.trans ezx105.symm
                  refine lv_iconst (v := (1 : Int32)) hx hb dX0_writeHeader_267 (by decide) ?_
                  obtain ⟨y106, hy106, hF⟩ := bnd_some hF
                  obtain ⟨w107, hF, ew107⟩ := app_some hF
                  obtain ⟨L108, eL108, hF⟩ := ltt_some hF
                  have hT108 : y.1 = (L101 ++ y106.1) ++ w107.1 := by rw [hT, ew107]; simp only [List.append_assoc]
                  have hbl108 : L108.length ≤ y.1.length ∧ wt L108 ≤ wt y.1 := by rw [eL108]; exact room_d hT108 hbl
                  have J106 : ∀ (ad109 : Nat → Nat), agr G.1 ad ad109 → ∀ (H : Heap) (locs : List Loc) (ls : Array Slot), va_P D classes (wld ct ad109 (xt G L108) y106.2) H → va_D A (wld ct ad109 (xt G L108) y106.2) → va_S A s.heap H locs → lv_has ls 2 [] → W p l e (headSpec wsX0_writeHeader ({ frames := 7, cells := y.1.length, slots := wt y.1, locals := 220 })).room s m ([.ref (ad a)] : List Value).toArray below meth c H locs (L108 : NN).length (wt L108) (MQ below (va_Qv (fun (u : Nat → Nat) => agr G.1 ad u) (fun u t => kE D ct u (xt G y.1) A y.2 t) A) ([.ref (ad a)] : List Value).toArray s y.1.length (wt y.1) A) (F0 m 278 ls []) := by
                    intro ad109 hag H locs ls hP hD hS hl
                    have hT : y.1 = L108 ++ w107.1 := by rw [hT108, eL108]
                    have h2 : y.2 = w107.2 := by rw [h2, ew107]
                    have hk : (xt G L108).2.1 a = 0 := by rw [eL108]; exact xt_k _ hc hk
                    have hc : a < (xt G L108).1 := by rw [eL108]; exact xt_l _ hc
                    have hk2 : (xt G L108).2.1 b2 = 9 := by rw [eL108]; exact xt_k _ hc2 hk2
                    have hc2 : b2 < (xt G L108).1 := by rw [eL108]; exact xt_l _ hc2
                    have hk3 : (xt G L108).2.1 b3 = 3 := by rw [eL108]; exact xt_k _ hc3 hk3
                    have hc3 : b3 < (xt G L108).1 := by rw [eL108]; exact xt_l _ hc3
                    have hk4 : (xt G L108).2.1 b4 = 13 := by rw [eL108]; exact xt_k _ hc4 hk4
                    have hc4 : b4 < (xt G L108).1 := by rw [eL108]; exact xt_l _ hc4
                    have hk6 : (xt G L108).2.1 b6 = 10 := by rw [eL108]; exact xt_k _ hc6 hk6
                    have hc6 : b6 < (xt G L108).1 := by rw [eL108]; exact xt_l _ hc6
                    have hk14 : (xt G L108).2.1 b14 = 10 := by rw [eL108]; exact xt_k _ hc14 hk14
                    have hc14 : b14 < (xt G L108).1 := by rw [eL108]; exact xt_l _ hc14
                    have hk21 : (xt G L108).2.1 b21 = 10 := by rw [eL108]; exact xt_k _ hc21 hk21
                    have hc21 : b21 < (xt G L108).1 := by rw [eL108]; exact xt_l _ hc21
                    have hk30 : (xt G L108).2.1 b30 = 10 := by rw [eL108]; exact xt_k _ hc30 hk30
                    have hc30 : b30 < (xt G L108).1 := by rw [eL108]; exact xt_l _ hc30
                    have hk37 : (xt G L108).2.1 b37 = 9 := by rw [eL108]; exact xt_k _ hc37 hk37
                    have hc37 : b37 < (xt G L108).1 := by rw [eL108]; exact xt_l _ hc37
                    have hk38 : (xt G L108).2.1 b38 = 3 := by rw [eL108]; exact xt_k _ hc38 hk38
                    have hc38 : b38 < (xt G L108).1 := by rw [eL108]; exact xt_l _ hc38
                    have hk44 : (xt G L108).2.1 b44 = 13 := by rw [eL108]; exact xt_k _ hc44 hk44
                    have hc44 : b44 < (xt G L108).1 := by rw [eL108]; exact xt_l _ hc44
                    have hk65 : (xt G L108).2.1 b65 = 9 := by rw [eL108]; exact xt_k _ hc65 hk65
                    have hc65 : b65 < (xt G L108).1 := by rw [eL108]; exact xt_l _ hc65
                    have hk66 : (xt G L108).2.1 b66 = 3 := by rw [eL108]; exact xt_k _ hc66 hk66
                    have hc66 : b66 < (xt G L108).1 := by rw [eL108]; exact xt_l _ hc66
                    have hk72 : (xt G L108).2.1 b72 = 9 := by rw [eL108]; exact xt_k _ hc72 hk72
                    have hc72 : b72 < (xt G L108).1 := by rw [eL108]; exact xt_l _ hc72
                    have hk73 : (xt G L108).2.1 b73 = 13 := by rw [eL108]; exact xt_k _ hc73 hk73
                    have hc73 : b73 < (xt G L108).1 := by rw [eL108]; exact xt_l _ hc73
                    have hk80 : (xt G L108).2.1 b80 = 13 := by rw [eL108]; exact xt_k _ hc80 hk80
                    have hc80 : b80 < (xt G L108).1 := by rw [eL108]; exact xt_l _ hc80
                    have hk83 : (xt G L108).2.1 b83 = 10 := by rw [eL108]; exact xt_k _ hc83 hk83
                    have hc83 : b83 < (xt G L108).1 := by rw [eL108]; exact xt_l _ hc83
                    have hk91 : (xt G L108).2.1 b91 = 10 := by rw [eL108]; exact xt_k _ hc91 hk91
                    have hc91 : b91 < (xt G L108).1 := by rw [eL108]; exact xt_l _ hc91
                    have hk103 : (xt G L108).2.1 b103 = 9 := by rw [eL108]; exact xt_k _ hc103 hk103
                    have hc103 : b103 < (xt G L108).1 := by rw [eL108]; exact xt_l _ hc103
                    have hk104 : (xt G L108).2.1 b104 = 13 := by rw [eL108]; exact xt_k _ hc104 hk104
                    have hc104 : b104 < (xt G L108).1 := by rw [eL108]; exact xt_l _ hc104
                    obtain rfl := Option.some.inj hF
                    have e1 : y.1 = L108 := by rw [hT]; exact List.append_nil _
                    have e2 : y.2 = y106.2 := h2
                    refine W.widen (k := y.1.length) (n := wt y.1) (Nat.le_of_eq (by rw [e1])) (Nat.le_of_eq (by rw [e1])) ?_
                    exact W.vret hx hb hr (fun t ht hW => ⟨⟨ad109, rfl, hag, (by unfold kE; rw [e1, e2]; exact ⟨by rw [ht]; exact hP, va_K.moved hW.alike hK, hD⟩)⟩, hS.F ht⟩) hS.2.2 dX0_writeHeader_278
                  clear hF
                  obtain ⟨w110, hw110⟩ : ∃ z, z = y106 := ⟨_, rfl⟩
                  have hF := hy106
                  rw [← hw110] at hF
                  clear hy106
                  have hT : L108 = L101 ++ w110.1 := by rw [eL108, hw110]
                  have h2 : y106.2 = w110.2 := by rw [hw110]
                  have hbl := hbl108
                  refine lv_icmp_ne (tgt := 278) hx hb dX0_writeHeader_268 (by decide) (fun c111 => ?_) (fun c111 => ?_)
                  · rw [if_neg c111] at hF
                    obtain rfl := Option.some.inj hF
                    have e1 : L108 = L101 := by rw [hT]; exact List.append_nil _
                    have e2 : y106.2 = y99.2 := h2
                    rw [e1] at J106
                    try rw [e2] at J106
                    exact J106 _ hag _ _ _ hP hD hS (lv_sub hl [] rfl)
                  · rw [if_pos c111] at hF
                    refine lv_aload_n hx hb dX0_writeHeader_271 rfl (lv_at hl 0 rfl) ?_
                    refine va_get (D := D) (ci := 0) (v := va_re ad102 (y99.2.2 a 2)) (C := RX0) (T := TX0) (N := 21) hx hb hts (by decide +kernel) hown hK hP a (wld_o ct ad102 (xt G L101) y99.2 hc hk (by decide)) rfl 2 (by decide) (hts (.fieldLink RX0 29 "VideoSuite$Coder" "writer" "LVideoSuite$Writer;") (by decide +kernel)) (fun _ h9 => h9) rfl dX0_writeHeader_272 ?_
                    obtain ⟨b112, ho112, hc112, hk112, hF⟩ := dr_some hF
                    refine W_st (st' := [.ref (ad102 b112)]) (by rw [va_some ho112]) ?_
                    obtain ⟨y113, hy113, hF⟩ := bnd_some hF
                    obtain ⟨w114, hF, ew114⟩ := app_some hF
                    obtain ⟨L115, eL115, hF⟩ := ltt_some hF
                    have hT115 : L108 = (L101 ++ y113.1) ++ w114.1 := by rw [hT, ew114]; simp only [List.append_assoc]
                    have hf9 := wA_in hD hA9 hS
                    refine va_callv (va_runV (As := []) (rest := []) ⟨hx, hb, hml, hown, hts⟩ (kX10_beginData l D ct ad102 Z (xt G L101) y99.2 _ b112 y113 hc112 hk112 hy113) (cwV 0 hts gX0_writeHeader_X10_beginData rfl rfl rfl (by decide +kernel) ⟨Nat.le_of_ble_eq_true rfl, Nat.le_of_ble_eq_true rfl⟩) ⟨fun a U g mk q => by obtain ⟨q0, q1, qP, qK, qD, qZ, qN⟩ := q; exact ⟨q0, q1, qP, va_K.moved (u := U) (U := U.calling g mk a) (Vm.Alike.refl U.vm) qK, qD, sF.moved (u := U) (U := U.calling g mk a) (Vm.Alike.refl U.vm) qZ, nF.same rfl qN⟩, va_recv hK hP (ci := 10) (q0 := b112) rfl (wld_o ct ad102 (xt G L101) y99.2 hc112 hk112 (by decide)), fun U hU hW => ⟨rfl, by rw [hU], by rw [hU]; exact hP, va_K.moved hW.alike hK, hD.weaken (fun _ _ _ _ => trivial), by rw [hU]; exact ((hZ.kept hS.2.1).narrow hf9).moved hW.alike, hN.warm hW⟩⟩ rfl rfl hl.1 rfl (lv_room (Nat.le_of_ble_eq_true rfl)) dX0_writeHeader_275 (room_s hT115 hbl)) hS (fun q _ h => hf9 q h) hf9 (fun ad116 t H locs ht hvm hw hB hz1 hk1 hS => ?_)
                    have hn117 := hw
                    obtain ⟨hP, hK9, hD9⟩ := hB
                    rw [ht] at hP
                    have hD := hD9.weaken (fun _ q _ h => hf9 q.1 h)
                    rw [xt_xt, ← eL115] at hP hD
                    refine W_cs (k := L115.length) (n := wt L115) (by rw [eL115]; exact (len_s L101 y113.1).symm) (by rw [eL115]; exact (wt_app L101 y113.1).symm) ?_
                    have hT : L108 = L115 ++ w114.1 := by rw [hT115, eL115]
                    have h2 : y106.2 = w114.2 := by rw [h2, ew114]
                    have hl := lv_sub (l' := []) hl [] rfl
                    have hk : (xt G L115).2.1 a = 0 := by rw [eL115]; exact xt_k _ hc hk
                    have hc : a < (xt G L115).1 := by rw [eL115]; exact xt_l _ hc
                    have hk2 : (xt G L115).2.1 b2 = 9 := by rw [eL115]; exact xt_k _ hc2 hk2
                    have hc2 : b2 < (xt G L115).1 := by rw [eL115]; exact xt_l _ hc2
                    have hk3 : (xt G L115).2.1 b3 = 3 := by rw [eL115]; exact xt_k _ hc3 hk3
                    have hc3 : b3 < (xt G L115).1 := by rw [eL115]; exact xt_l _ hc3
                    have hk4 : (xt G L115).2.1 b4 = 13 := by rw [eL115]; exact xt_k _ hc4 hk4
                    have hc4 : b4 < (xt G L115).1 := by rw [eL115]; exact xt_l _ hc4
                    have hk6 : (xt G L115).2.1 b6 = 10 := by rw [eL115]; exact xt_k _ hc6 hk6
                    have hc6 : b6 < (xt G L115).1 := by rw [eL115]; exact xt_l _ hc6
                    have hk14 : (xt G L115).2.1 b14 = 10 := by rw [eL115]; exact xt_k _ hc14 hk14
                    have hc14 : b14 < (xt G L115).1 := by rw [eL115]; exact xt_l _ hc14
                    have hk21 : (xt G L115).2.1 b21 = 10 := by rw [eL115]; exact xt_k _ hc21 hk21
                    have hc21 : b21 < (xt G L115).1 := by rw [eL115]; exact xt_l _ hc21
                    have hk30 : (xt G L115).2.1 b30 = 10 := by rw [eL115]; exact xt_k _ hc30 hk30
                    have hc30 : b30 < (xt G L115).1 := by rw [eL115]; exact xt_l _ hc30
                    have hk37 : (xt G L115).2.1 b37 = 9 := by rw [eL115]; exact xt_k _ hc37 hk37
                    have hc37 : b37 < (xt G L115).1 := by rw [eL115]; exact xt_l _ hc37
                    have hk38 : (xt G L115).2.1 b38 = 3 := by rw [eL115]; exact xt_k _ hc38 hk38
                    have hc38 : b38 < (xt G L115).1 := by rw [eL115]; exact xt_l _ hc38
                    have hk44 : (xt G L115).2.1 b44 = 13 := by rw [eL115]; exact xt_k _ hc44 hk44
                    have hc44 : b44 < (xt G L115).1 := by rw [eL115]; exact xt_l _ hc44
                    have hk65 : (xt G L115).2.1 b65 = 9 := by rw [eL115]; exact xt_k _ hc65 hk65
                    have hc65 : b65 < (xt G L115).1 := by rw [eL115]; exact xt_l _ hc65
                    have hk66 : (xt G L115).2.1 b66 = 3 := by rw [eL115]; exact xt_k _ hc66 hk66
                    have hc66 : b66 < (xt G L115).1 := by rw [eL115]; exact xt_l _ hc66
                    have hk72 : (xt G L115).2.1 b72 = 9 := by rw [eL115]; exact xt_k _ hc72 hk72
                    have hc72 : b72 < (xt G L115).1 := by rw [eL115]; exact xt_l _ hc72
                    have hk73 : (xt G L115).2.1 b73 = 13 := by rw [eL115]; exact xt_k _ hc73 hk73
                    have hc73 : b73 < (xt G L115).1 := by rw [eL115]; exact xt_l _ hc73
                    have hk80 : (xt G L115).2.1 b80 = 13 := by rw [eL115]; exact xt_k _ hc80 hk80
                    have hc80 : b80 < (xt G L115).1 := by rw [eL115]; exact xt_l _ hc80
                    have hk83 : (xt G L115).2.1 b83 = 10 := by rw [eL115]; exact xt_k _ hc83 hk83
                    have hc83 : b83 < (xt G L115).1 := by rw [eL115]; exact xt_l _ hc83
                    have hk91 : (xt G L115).2.1 b91 = 10 := by rw [eL115]; exact xt_k _ hc91 hk91
                    have hc91 : b91 < (xt G L115).1 := by rw [eL115]; exact xt_l _ hc91
                    have hk103 : (xt G L115).2.1 b103 = 9 := by rw [eL115]; exact xt_k _ hc103 hk103
                    have hc103 : b103 < (xt G L115).1 := by rw [eL115]; exact xt_l _ hc103
                    have hk104 : (xt G L115).2.1 b104 = 13 := by rw [eL115]; exact xt_k _ hc104 hk104
                    have hc104 : b104 < (xt G L115).1 := by rw [eL115]; exact xt_l _ hc104
                    have hk112 : (xt G L115).2.1 b112 = 10 := by rw [eL115]; exact xt_k _ hc112 hk112
                    have hc112 : b112 < (xt G L115).1 := by rw [eL115]; exact xt_l _ hc112
                    have hag := agr_t (xt_ge _ _) hag hn117
                    obtain rfl := Option.some.inj hF
                    have e1 : L108 = L115 := by rw [hT]; exact List.append_nil _
                    have e2 : y106.2 = y113.2 := h2
                    rw [e1] at J106
                    try rw [e2] at J106
                    exact J106 _ hag _ _ _ hP hD hS (lv_sub hl [] rfl)
                clear hF
                obtain ⟨w118, hw118⟩ : ∃ z, z = y99 := ⟨_, rfl⟩
                have hF := hy99
                rw [← hw118] at hF
                clear hy99
                have hT : L101 = L95 ++ w118.1 := by rw [eL101, hw118]
                have h2 : y99.2 = w118.2 := by rw [hw118]
                have hbl := hbl101
                refine lv_icmp_eq (tgt := 258) hx hb dX0_writeHeader_231 (by decide) (fun c119 => ?_) (fun c119 => ?_)
                · rw [if_pos c119] at hF
                  obtain rfl := Option.some.inj hF
                  have e1 : L101 = L95 := by rw [hT]; exact List.append_nil _
                  have e2 : y99.2 = y92.2 := h2
                  rw [e1] at J99
                  try rw [e2] at J99
                  exact J99 _ hag _ _ _ hP hD hS (lv_sub hl [1] rfl)
                · rw [if_neg c119] at hF
                  refine lv_aload_n hx hb dX0_writeHeader_234 rfl (lv_at hl 1 rfl) ?_
                  refine va_get (D := D) (ci := 0) (v := va_re ad96 (y92.2.2 a 2)) (C := RX0) (T := TX0) (N := 21) hx hb hts (by decide +kernel) hown hK hP a (wld_o ct ad96 (xt G L95) y92.2 hc hk (by decide)) rfl 2 (by decide) (hts (.fieldLink RX0 29 "VideoSuite$Coder" "writer" "LVideoSuite$Writer;") (by decide +kernel)) (fun _ h9 => h9) rfl dX0_writeHeader_235 ?_
                  refine lv_iconst (v := (0 : Int32)) hx hb dX0_writeHeader_238 (by decide) ?_
                  refine lv_aloadq_n hx hb dX0_writeHeader_239 rfl (lv_at hl 0 rfl) ?_
                  refine lv_bipush (v := (14 : Int32)) hx hb dX0_writeHeader_240 (by decide) ?_
                  refine W_st (st' := [.int (14 : Int32), .ref (ad96 b4), .int (0 : Int32), va_re ad96 (y92.2.2 a 2)]) (by rw [va_some ho4]) ?_
                  obtain ⟨hvc, hF⟩ := chk_some hF
                  refine va_iald hx hb hK hP b4 1 (wld_i ct ad96 (xt G L95) y92.2 hc4 hk4) rfl hvc dX0_writeHeader_242 ?_
                  obtain ⟨x120, ex120, hF⟩ := ltt_some hF
                  refine lv_topi (fun zx120 ezx120 => ?_)
                  obtain rfl : x120 = zx120 := ex120.trans ezx120.symm
                  obtain ⟨b121, ho121, hc121, hk121, hF⟩ := dr_some hF
                  refine W_st (st' := [.int x120, .int (0 : Int32), .ref (ad96 b121)]) (by rw [va_some ho121]) ?_
                  obtain ⟨hq123, hF⟩ := chk_some hF
                  obtain ⟨y122, hy122, hF⟩ := bnd_some hF
                  obtain ⟨w124, hF, ew124⟩ := app_some hF
                  obtain ⟨L125, eL125, hF⟩ := ltt_some hF
                  have hT125 : L101 = (L95 ++ y122.1) ++ w124.1 := by rw [hT, ew124]; simp only [List.append_assoc]
                  have hf9 := wA_in hD hA9 hS
                  refine va_callv (va_runV (As := [.int (0 : Int32), .int x120]) (rest := []) ⟨hx, hb, hml, hown, hts⟩ (kX10_se l D ct ad96 Z (xt G L95) y92.2 _ b121 ((0 : Int32)) x120 y122 hc121 hk121 hy122) (cwV 2 hts gX0_writeHeader_X10_se rfl rfl rfl (by decide +kernel) ⟨Nat.le_of_ble_eq_true rfl, Nat.le_of_ble_eq_true rfl⟩) ⟨fun a U g mk q => by obtain ⟨q0, q1, qP, qK, qD, qZ, qN⟩ := q; exact ⟨q0, q1, qP, va_K.moved (u := U) (U := U.calling g mk a) (Vm.Alike.refl U.vm) qK, qD, sF.moved (u := U) (U := U.calling g mk a) (Vm.Alike.refl U.vm) qZ, nF.same rfl qN⟩, va_recv hK hP (ci := 10) (q0 := b121) rfl (wld_o ct ad96 (xt G L95) y92.2 hc121 hk121 (by decide)), fun U hU hW => ⟨rfl, by rw [hU], by rw [hU]; exact hP, va_K.moved hW.alike hK, hD.weaken (fun _ _ _ _ => trivial), by rw [hU]; exact ((hZ.kept hS.2.1).narrow hf9).moved hW.alike, hN.warm hW⟩⟩ rfl rfl hl.1 rfl (lv_room (Nat.le_of_ble_eq_true rfl)) dX0_writeHeader_243 (room_s hT125 hbl)) hS (fun q _ h => hf9 q h) hf9 (fun ad126 t H locs ht hvm hw hB hz1 hk1 hS => ?_)
                  have hn127 := hw
                  obtain ⟨hP, hK9, hD9⟩ := hB
                  rw [ht] at hP
                  have hD := hD9.weaken (fun _ q _ h => hf9 q.1 h)
                  rw [xt_xt, ← eL125] at hP hD
                  refine W_cs (k := L125.length) (n := wt L125) (by rw [eL125]; exact (len_s L95 y122.1).symm) (by rw [eL125]; exact (wt_app L95 y122.1).symm) ?_
                  have hT : L101 = L125 ++ w124.1 := by rw [hT125, eL125]
                  have h2 : y99.2 = w124.2 := by rw [h2, ew124]
                  have hl := lv_sub (l' := [(1, va_re ad96 (M.2 b3 0)), (0, .ref (ad96 a))]) hl [0, 1] rfl
                  have e9 : ([(1, va_re ad96 (M.2 b3 0)), (0, .ref (ad96 a))] : List (Nat × Value)) = [(1, va_re ad126 (M.2 b3 0)), (0, .ref (ad126 a))] := (by first | rfl | simp only [agr_re hn127 hq123, hn127 a hc])
                  rw [e9] at hl
                  clear e9
                  have hk : (xt G L125).2.1 a = 0 := by rw [eL125]; exact xt_k _ hc hk
                  have hc : a < (xt G L125).1 := by rw [eL125]; exact xt_l _ hc
                  have hk2 : (xt G L125).2.1 b2 = 9 := by rw [eL125]; exact xt_k _ hc2 hk2
                  have hc2 : b2 < (xt G L125).1 := by rw [eL125]; exact xt_l _ hc2
                  have hk3 : (xt G L125).2.1 b3 = 3 := by rw [eL125]; exact xt_k _ hc3 hk3
                  have hc3 : b3 < (xt G L125).1 := by rw [eL125]; exact xt_l _ hc3
                  have hk4 : (xt G L125).2.1 b4 = 13 := by rw [eL125]; exact xt_k _ hc4 hk4
                  have hc4 : b4 < (xt G L125).1 := by rw [eL125]; exact xt_l _ hc4
                  have hk6 : (xt G L125).2.1 b6 = 10 := by rw [eL125]; exact xt_k _ hc6 hk6
                  have hc6 : b6 < (xt G L125).1 := by rw [eL125]; exact xt_l _ hc6
                  have hk14 : (xt G L125).2.1 b14 = 10 := by rw [eL125]; exact xt_k _ hc14 hk14
                  have hc14 : b14 < (xt G L125).1 := by rw [eL125]; exact xt_l _ hc14
                  have hk21 : (xt G L125).2.1 b21 = 10 := by rw [eL125]; exact xt_k _ hc21 hk21
                  have hc21 : b21 < (xt G L125).1 := by rw [eL125]; exact xt_l _ hc21
                  have hk30 : (xt G L125).2.1 b30 = 10 := by rw [eL125]; exact xt_k _ hc30 hk30
                  have hc30 : b30 < (xt G L125).1 := by rw [eL125]; exact xt_l _ hc30
                  have hk37 : (xt G L125).2.1 b37 = 9 := by rw [eL125]; exact xt_k _ hc37 hk37
                  have hc37 : b37 < (xt G L125).1 := by rw [eL125]; exact xt_l _ hc37
                  have hk38 : (xt G L125).2.1 b38 = 3 := by rw [eL125]; exact xt_k _ hc38 hk38
                  have hc38 : b38 < (xt G L125).1 := by rw [eL125]; exact xt_l _ hc38
                  have hk44 : (xt G L125).2.1 b44 = 13 := by rw [eL125]; exact xt_k _ hc44 hk44
                  have hc44 : b44 < (xt G L125).1 := by rw [eL125]; exact xt_l _ hc44
                  have hk65 : (xt G L125).2.1 b65 = 9 := by rw [eL125]; exact xt_k _ hc65 hk65
                  have hc65 : b65 < (xt G L125).1 := by rw [eL125]; exact xt_l _ hc65
                  have hk66 : (xt G L125).2.1 b66 = 3 := by rw [eL125]; exact xt_k _ hc66 hk66
                  have hc66 : b66 < (xt G L125).1 := by rw [eL125]; exact xt_l _ hc66
                  have hk72 : (xt G L125).2.1 b72 = 9 := by rw [eL125]; exact xt_k _ hc72 hk72
                  have hc72 : b72 < (xt G L125).1 := by rw [eL125]; exact xt_l _ hc72
                  have hk73 : (xt G L125).2.1 b73 = 13 := by rw [eL125]; exact xt_k _ hc73 hk73
                  have hc73 : b73 < (xt G L125).1 := by rw [eL125]; exact xt_l _ hc73
                  have hk80 : (xt G L125).2.1 b80 = 13 := by rw [eL125]; exact xt_k _ hc80 hk80
                  have hc80 : b80 < (xt G L125).1 := by rw [eL125]; exact xt_l _ hc80
                  have hk83 : (xt G L125).2.1 b83 = 10 := by rw [eL125]; exact xt_k _ hc83 hk83
                  have hc83 : b83 < (xt G L125).1 := by rw [eL125]; exact xt_l _ hc83
                  have hk91 : (xt G L125).2.1 b91 = 10 := by rw [eL125]; exact xt_k _ hc91 hk91
                  have hc91 : b91 < (xt G L125).1 := by rw [eL125]; exact xt_l _ hc91
                  have hk121 : (xt G L125).2.1 b121 = 10 := by rw [eL125]; exact xt_k _ hc121 hk121
                  have hc121 : b121 < (xt G L125).1 := by rw [eL125]; exact xt_l _ hc121
                  have hag := agr_t (xt_ge _ _) hag hn127
                  refine lv_aload_n hx hb dX0_writeHeader_246 rfl (lv_at hl 1 rfl) ?_
                  refine va_get (D := D) (ci := 0) (v := va_re ad126 (y122.2.2 a 2)) (C := RX0) (T := TX0) (N := 21) hx hb hts (by decide +kernel) hown hK hP a (wld_o ct ad126 (xt G L125) y122.2 hc hk (by decide)) rfl 2 (by decide) (hts (.fieldLink RX0 29 "VideoSuite$Coder" "writer" "LVideoSuite$Writer;") (by decide +kernel)) (fun _ h9 => h9) rfl dX0_writeHeader_247 ?_
                  refine lv_iconst (v := (0 : Int32)) hx hb dX0_writeHeader_250 (by decide) ?_
                  refine lv_aloadq_n hx hb dX0_writeHeader_251 rfl (lv_at hl 0 rfl) ?_
                  refine lv_bipush (v := (15 : Int32)) hx hb dX0_writeHeader_252 (by decide) ?_
                  refine W_st (st' := [.int (15 : Int32), .ref (ad126 b4), .int (0 : Int32), va_re ad126 (y122.2.2 a 2)]) (by rw [va_some ho4]) ?_
                  obtain ⟨hvc, hF⟩ := chk_some hF
                  refine va_iald hx hb hK hP b4 1 (wld_i ct ad126 (xt G L125) y122.2 hc4 hk4) rfl hvc dX0_writeHeader_254 ?_
                  obtain ⟨x128, ex128, hF⟩ := ltt_some hF
                  refine lv_topi (fun zx128 ezx128 => ?_)
                  obtain rfl : x128 = zx128 := ex128.trans ezx128.symm
                  obtain ⟨b129, ho129, hc129, hk129, hF⟩ := dr_some hF
                  refine W_st (st' := [.int x128, .int (0 : Int32), .ref (ad126 b129)]) (by rw [va_some ho129]) ?_
                  obtain ⟨y130, hy130, hF⟩ := bnd_some hF
                  obtain ⟨w131, hF, ew131⟩ := app_some hF
                  obtain ⟨L132, eL132, hF⟩ := ltt_some hF
                  have hT132 : L101 = (L125 ++ y130.1) ++ w131.1 := by rw [hT, ew131]; simp only [List.append_assoc]
                  have hf9 := wA_in hD hA9 hS
                  refine va_callv (va_runV (As := [.int (0 : Int32), .int x128]) (rest := []) ⟨hx, hb, hml, hown, hts⟩ (kX10_se l D ct ad126 Z (xt G L125) y122.2 _ b129 ((0 : Int32)) x128 y130 hc129 hk129 hy130) (cwV 2 hts gX0_writeHeader_X10_se rfl rfl rfl (by decide +kernel) ⟨Nat.le_of_ble_eq_true rfl, Nat.le_of_ble_eq_true rfl⟩) ⟨fun a U g mk q => by obtain ⟨q0, q1, qP, qK, qD, qZ, qN⟩ := q; exact ⟨q0, q1, qP, va_K.moved (u := U) (U := U.calling g mk a) (Vm.Alike.refl U.vm) qK, qD, sF.moved (u := U) (U := U.calling g mk a) (Vm.Alike.refl U.vm) qZ, nF.same rfl qN⟩, va_recv hK hP (ci := 10) (q0 := b129) rfl (wld_o ct ad126 (xt G L125) y122.2 hc129 hk129 (by decide)), fun U hU hW => ⟨rfl, by rw [hU], by rw [hU]; exact hP, va_K.moved hW.alike hK, hD.weaken (fun _ _ _ _ => trivial), by rw [hU]; exact ((hZ.kept hS.2.1).narrow hf9).moved hW.alike, hN.warm hW⟩⟩ rfl rfl hl.1 rfl (lv_room (Nat.le_of_ble_eq_true rfl)) dX0_writeHeader_255 (room_s hT132 hbl)) hS (fun q _ h => hf9 q h) hf9 (fun ad133 t H locs ht hvm hw hB hz1 hk1 hS => ?_)
                  have hn134 := hw
                  obtain ⟨hP, hK9, hD9⟩ := hB
                  rw [ht] at hP
                  have hD := hD9.weaken (fun _ q _ h => hf9 q.1 h)
                  rw [xt_xt, ← eL132] at hP hD
                  refine W_cs (k := L132.length) (n := wt L132) (by rw [eL132]; exact (len_s L125 y130.1).symm) (by rw [eL132]; exact (wt_app L125 y130.1).symm) ?_
                  have hT : L101 = L132 ++ w131.1 := by rw [hT132, eL132]
                  have h2 : y99.2 = w131.2 := by rw [h2, ew131]
                  have hl := lv_sub (l' := [(0, .ref (ad126 a))]) hl [1] rfl
                  have e9 : ([(0, .ref (ad126 a))] : List (Nat × Value)) = [(0, .ref (ad133 a))] := (by first | rfl | simp only [hn134 a hc])
                  rw [e9] at hl
                  clear e9
                  have hk : (xt G L132).2.1 a = 0 := by rw [eL132]; exact xt_k _ hc hk
                  have hc : a < (xt G L132).1 := by rw [eL132]; exact xt_l _ hc
                  have hk2 : (xt G L132).2.1 b2 = 9 := by rw [eL132]; exact xt_k _ hc2 hk2
                  have hc2 : b2 < (xt G L132).1 := by rw [eL132]; exact xt_l _ hc2
                  have hk3 : (xt G L132).2.1 b3 = 3 := by rw [eL132]; exact xt_k _ hc3 hk3
                  have hc3 : b3 < (xt G L132).1 := by rw [eL132]; exact xt_l _ hc3
                  have hk4 : (xt G L132).2.1 b4 = 13 := by rw [eL132]; exact xt_k _ hc4 hk4
                  have hc4 : b4 < (xt G L132).1 := by rw [eL132]; exact xt_l _ hc4
                  have hk6 : (xt G L132).2.1 b6 = 10 := by rw [eL132]; exact xt_k _ hc6 hk6
                  have hc6 : b6 < (xt G L132).1 := by rw [eL132]; exact xt_l _ hc6
                  have hk14 : (xt G L132).2.1 b14 = 10 := by rw [eL132]; exact xt_k _ hc14 hk14
                  have hc14 : b14 < (xt G L132).1 := by rw [eL132]; exact xt_l _ hc14
                  have hk21 : (xt G L132).2.1 b21 = 10 := by rw [eL132]; exact xt_k _ hc21 hk21
                  have hc21 : b21 < (xt G L132).1 := by rw [eL132]; exact xt_l _ hc21
                  have hk30 : (xt G L132).2.1 b30 = 10 := by rw [eL132]; exact xt_k _ hc30 hk30
                  have hc30 : b30 < (xt G L132).1 := by rw [eL132]; exact xt_l _ hc30
                  have hk37 : (xt G L132).2.1 b37 = 9 := by rw [eL132]; exact xt_k _ hc37 hk37
                  have hc37 : b37 < (xt G L132).1 := by rw [eL132]; exact xt_l _ hc37
                  have hk38 : (xt G L132).2.1 b38 = 3 := by rw [eL132]; exact xt_k _ hc38 hk38
                  have hc38 : b38 < (xt G L132).1 := by rw [eL132]; exact xt_l _ hc38
                  have hk44 : (xt G L132).2.1 b44 = 13 := by rw [eL132]; exact xt_k _ hc44 hk44
                  have hc44 : b44 < (xt G L132).1 := by rw [eL132]; exact xt_l _ hc44
                  have hk65 : (xt G L132).2.1 b65 = 9 := by rw [eL132]; exact xt_k _ hc65 hk65
                  have hc65 : b65 < (xt G L132).1 := by rw [eL132]; exact xt_l _ hc65
                  have hk66 : (xt G L132).2.1 b66 = 3 := by rw [eL132]; exact xt_k _ hc66 hk66
                  have hc66 : b66 < (xt G L132).1 := by rw [eL132]; exact xt_l _ hc66
                  have hk72 : (xt G L132).2.1 b72 = 9 := by rw [eL132]; exact xt_k _ hc72 hk72
                  have hc72 : b72 < (xt G L132).1 := by rw [eL132]; exact xt_l _ hc72
                  have hk73 : (xt G L132).2.1 b73 = 13 := by rw [eL132]; exact xt_k _ hc73 hk73
                  have hc73 : b73 < (xt G L132).1 := by rw [eL132]; exact xt_l _ hc73
                  have hk80 : (xt G L132).2.1 b80 = 13 := by rw [eL132]; exact xt_k _ hc80 hk80
                  have hc80 : b80 < (xt G L132).1 := by rw [eL132]; exact xt_l _ hc80
                  have hk83 : (xt G L132).2.1 b83 = 10 := by rw [eL132]; exact xt_k _ hc83 hk83
                  have hc83 : b83 < (xt G L132).1 := by rw [eL132]; exact xt_l _ hc83
                  have hk91 : (xt G L132).2.1 b91 = 10 := by rw [eL132]; exact xt_k _ hc91 hk91
                  have hc91 : b91 < (xt G L132).1 := by rw [eL132]; exact xt_l _ hc91
                  have hk121 : (xt G L132).2.1 b121 = 10 := by rw [eL132]; exact xt_k _ hc121 hk121
                  have hc121 : b121 < (xt G L132).1 := by rw [eL132]; exact xt_l _ hc121
                  have hk129 : (xt G L132).2.1 b129 = 10 := by rw [eL132]; exact xt_k _ hc129 hk129
                  have hc129 : b129 < (xt G L132).1 := by rw [eL132]; exact xt_l _ hc129
                  have hag := agr_t (xt_ge _ _) hag hn134
                  obtain rfl := Option.some.inj hF
                  have e1 : L101 = L132 := by rw [hT]; exact List.append_nil _
                  have e2 : y99.2 = y130.2 := h2
                  rw [e1] at J99
                  try rw [e2] at J99
                  exact J99 _ hag _ _ _ hP hD hS (lv_sub hl [0] rfl)
              clear hF
              obtain ⟨w135, hw135⟩ : ∃ z, z = y75 := ⟨_, rfl⟩
              have hF := hy75
              rw [← hw135] at hF
              clear hy75
              have hT : L77 = L70 ++ w135.1 := by rw [eL77, hw135]
              have h2 : y75.2 = w135.2 := by rw [hw135]
              have hbl := hbl77
              refine lv_icmp_ne (tgt := 195) hx hb dX0_writeHeader_176 (by decide) (fun c136 => ?_) (fun c136 => ?_)
              · rw [if_neg c136] at hF
                obtain rfl := Option.some.inj hF
                have e1 : L77 = L70 := by rw [hT]; exact List.append_nil _
                have e2 : y75.2 = y68.2 := h2
                rw [e1] at J75
                try rw [e2] at J75
                exact J75 _ hag _ _ _ hP hD hS (lv_sub hl [0, 1] rfl)
              · rw [if_pos c136] at hF
                refine lv_aloadq_n hx hb dX0_writeHeader_179 rfl (lv_at hl 0 rfl) ?_
                refine lv_iconst (v := (1 : Int32)) hx hb dX0_writeHeader_180 (by decide) ?_
                refine W_st (st' := [.int (1 : Int32), .ref (ad71 b4)]) (by rw [va_some ho4]) ?_
                obtain ⟨hvc, hF⟩ := chk_some hF
                refine va_iald hx hb hK hP b4 1 (wld_i ct ad71 (xt G L70) y68.2 hc4 hk4) rfl hvc dX0_writeHeader_181 ?_
                obtain ⟨x137, ex137, hF⟩ := ltt_some hF
                refine lv_topi (fun zx137 ezx137 => ?_)
                obtain rfl : x137 = zx137 := ex137.trans ezx137.symm
                refine lv_iconst (v := (2 : Int32)) hx hb dX0_writeHeader_182 (by decide) ?_
                obtain ⟨y138, hy138, hF⟩ := bnd_some hF
                obtain ⟨w139, hF, ew139⟩ := app_some hF
                obtain ⟨L140, eL140, hF⟩ := ltt_some hF
                have hT140 : L77 = (L70 ++ y138.1) ++ w139.1 := by rw [hT, ew139]; simp only [List.append_assoc]
                have hbl140 : L140.length ≤ y.1.length ∧ wt L140 ≤ wt y.1 := by rw [eL140]; exact room_d hT140 hbl
                have J138 : ∀ (ad141 : Nat → Nat), agr G.1 ad ad141 → ∀ (H : Heap) (locs : List Loc) (ls : Array Slot), va_P D classes (wld ct ad141 (xt G L140) y138.2) H → va_D A (wld ct ad141 (xt G L140) y138.2) → va_S A s.heap H locs → lv_has ls 2 [(1, va_re ad141 (M.2 b3 0)), (0, .ref (ad141 a))] → W p l e (headSpec wsX0_writeHeader ({ frames := 7, cells := y.1.length, slots := wt y.1, locals := 220 })).room s m ([.ref (ad a)] : List Value).toArray below meth c H locs (L140 : NN).length (wt L140) (MQ below (va_Qv (fun (u : Nat → Nat) => agr G.1 ad u) (fun u t => kE D ct u (xt G y.1) A y.2 t) A) ([.ref (ad a)] : List Value).toArray s y.1.length (wt y.1) A) (F0 m 195 ls []) := by
                  intro ad141 hag H locs ls hP hD hS hl
                  have hT : L77 = L140 ++ w139.1 := by rw [hT140, eL140]
                  have h2 : y75.2 = w139.2 := by rw [h2, ew139]
                  have hk : (xt G L140).2.1 a = 0 := by rw [eL140]; exact xt_k _ hc hk
                  have hc : a < (xt G L140).1 := by rw [eL140]; exact xt_l _ hc
                  have hk2 : (xt G L140).2.1 b2 = 9 := by rw [eL140]; exact xt_k _ hc2 hk2
                  have hc2 : b2 < (xt G L140).1 := by rw [eL140]; exact xt_l _ hc2
                  have hk3 : (xt G L140).2.1 b3 = 3 := by rw [eL140]; exact xt_k _ hc3 hk3
                  have hc3 : b3 < (xt G L140).1 := by rw [eL140]; exact xt_l _ hc3
                  have hk4 : (xt G L140).2.1 b4 = 13 := by rw [eL140]; exact xt_k _ hc4 hk4
                  have hc4 : b4 < (xt G L140).1 := by rw [eL140]; exact xt_l _ hc4
                  have hk6 : (xt G L140).2.1 b6 = 10 := by rw [eL140]; exact xt_k _ hc6 hk6
                  have hc6 : b6 < (xt G L140).1 := by rw [eL140]; exact xt_l _ hc6
                  have hk14 : (xt G L140).2.1 b14 = 10 := by rw [eL140]; exact xt_k _ hc14 hk14
                  have hc14 : b14 < (xt G L140).1 := by rw [eL140]; exact xt_l _ hc14
                  have hk21 : (xt G L140).2.1 b21 = 10 := by rw [eL140]; exact xt_k _ hc21 hk21
                  have hc21 : b21 < (xt G L140).1 := by rw [eL140]; exact xt_l _ hc21
                  have hk30 : (xt G L140).2.1 b30 = 10 := by rw [eL140]; exact xt_k _ hc30 hk30
                  have hc30 : b30 < (xt G L140).1 := by rw [eL140]; exact xt_l _ hc30
                  have hk37 : (xt G L140).2.1 b37 = 9 := by rw [eL140]; exact xt_k _ hc37 hk37
                  have hc37 : b37 < (xt G L140).1 := by rw [eL140]; exact xt_l _ hc37
                  have hk38 : (xt G L140).2.1 b38 = 3 := by rw [eL140]; exact xt_k _ hc38 hk38
                  have hc38 : b38 < (xt G L140).1 := by rw [eL140]; exact xt_l _ hc38
                  have hk44 : (xt G L140).2.1 b44 = 13 := by rw [eL140]; exact xt_k _ hc44 hk44
                  have hc44 : b44 < (xt G L140).1 := by rw [eL140]; exact xt_l _ hc44
                  have hk65 : (xt G L140).2.1 b65 = 9 := by rw [eL140]; exact xt_k _ hc65 hk65
                  have hc65 : b65 < (xt G L140).1 := by rw [eL140]; exact xt_l _ hc65
                  have hk66 : (xt G L140).2.1 b66 = 3 := by rw [eL140]; exact xt_k _ hc66 hk66
                  have hc66 : b66 < (xt G L140).1 := by rw [eL140]; exact xt_l _ hc66
                  have hk72 : (xt G L140).2.1 b72 = 9 := by rw [eL140]; exact xt_k _ hc72 hk72
                  have hc72 : b72 < (xt G L140).1 := by rw [eL140]; exact xt_l _ hc72
                  have hk73 : (xt G L140).2.1 b73 = 13 := by rw [eL140]; exact xt_k _ hc73 hk73
                  have hc73 : b73 < (xt G L140).1 := by rw [eL140]; exact xt_l _ hc73
                  obtain rfl := Option.some.inj hF
                  have e1 : L77 = L140 := by rw [hT]; exact List.append_nil _
                  have e2 : y75.2 = y138.2 := h2
                  rw [e1] at J75
                  try rw [e2] at J75
                  exact J75 _ hag _ _ _ hP hD hS (lv_sub hl [0, 1] rfl)
                clear hF
                obtain ⟨w142, hw142⟩ : ∃ z, z = y138 := ⟨_, rfl⟩
                have hF := hy138
                rw [← hw142] at hF
                clear hy138
                have hT : L140 = L70 ++ w142.1 := by rw [eL140, hw142]
                have h2 : y138.2 = w142.2 := by rw [hw142]
                have hbl := hbl140
                refine lv_icmp_eq (tgt := 195) hx hb dX0_writeHeader_183 (by decide) (fun c143 => ?_) (fun c143 => ?_)
                · rw [if_pos c143] at hF
                  obtain rfl := Option.some.inj hF
                  have e1 : L140 = L70 := by rw [hT]; exact List.append_nil _
                  have e2 : y138.2 = y68.2 := h2
                  rw [e1] at J138
                  try rw [e2] at J138
                  exact J138 _ hag _ _ _ hP hD hS (lv_sub hl [0, 1] rfl)
                · rw [if_neg c143] at hF
                  refine lv_aload_n hx hb dX0_writeHeader_186 rfl (lv_at hl 1 rfl) ?_
                  refine va_get (D := D) (ci := 0) (v := va_re ad71 (y68.2.2 a 2)) (C := RX0) (T := TX0) (N := 21) hx hb hts (by decide +kernel) hown hK hP a (wld_o ct ad71 (xt G L70) y68.2 hc hk (by decide)) rfl 2 (by decide) (hts (.fieldLink RX0 29 "VideoSuite$Coder" "writer" "LVideoSuite$Writer;") (by decide +kernel)) (fun _ h9 => h9) rfl dX0_writeHeader_187 ?_
                  refine lv_iconst (v := (0 : Int32)) hx hb dX0_writeHeader_190 (by decide) ?_
                  refine lv_iconst (v := (0 : Int32)) hx hb dX0_writeHeader_191 (by decide) ?_
                  obtain ⟨b144, ho144, hc144, hk144, hF⟩ := dr_some hF
                  refine W_st (st' := [.int (0 : Int32), .int (0 : Int32), .ref (ad71 b144)]) (by rw [va_some ho144]) ?_
                  obtain ⟨hq146, hF⟩ := chk_some hF
                  obtain ⟨y145, hy145, hF⟩ := bnd_some hF
                  obtain ⟨w147, hF, ew147⟩ := app_some hF
                  obtain ⟨L148, eL148, hF⟩ := ltt_some hF
                  have hT148 : L140 = (L70 ++ y145.1) ++ w147.1 := by rw [hT, ew147]; simp only [List.append_assoc]
                  have hf9 := wA_in hD hA9 hS
                  refine va_callv (va_runV (As := [.int (0 : Int32), .int (0 : Int32)]) (rest := []) ⟨hx, hb, hml, hown, hts⟩ (kX10_ue l D ct ad71 Z (xt G L70) y68.2 _ b144 ((0 : Int32)) ((0 : Int32)) y145 hc144 hk144 hy145) (cwV 2 hts gX0_writeHeader_X10_ue rfl rfl rfl (by decide +kernel) ⟨Nat.le_of_ble_eq_true rfl, Nat.le_of_ble_eq_true rfl⟩) ⟨fun a U g mk q => by obtain ⟨q0, q1, qP, qK, qD, qZ, qN⟩ := q; exact ⟨q0, q1, qP, va_K.moved (u := U) (U := U.calling g mk a) (Vm.Alike.refl U.vm) qK, qD, sF.moved (u := U) (U := U.calling g mk a) (Vm.Alike.refl U.vm) qZ, nF.same rfl qN⟩, va_recv hK hP (ci := 10) (q0 := b144) rfl (wld_o ct ad71 (xt G L70) y68.2 hc144 hk144 (by decide)), fun U hU hW => ⟨rfl, by rw [hU], by rw [hU]; exact hP, va_K.moved hW.alike hK, hD.weaken (fun _ _ _ _ => trivial), by rw [hU]; exact ((hZ.kept hS.2.1).narrow hf9).moved hW.alike, hN.warm hW⟩⟩ rfl rfl hl.1 rfl (lv_room (Nat.le_of_ble_eq_true rfl)) dX0_writeHeader_192 (room_s hT148 hbl)) hS (fun q _ h => hf9 q h) hf9 (fun ad149 t H locs ht hvm hw hB hz1 hk1 hS => ?_)
                  have hn150 := hw
                  obtain ⟨hP, hK9, hD9⟩ := hB
                  rw [ht] at hP
                  have hD := hD9.weaken (fun _ q _ h => hf9 q.1 h)
                  rw [xt_xt, ← eL148] at hP hD
                  refine W_cs (k := L148.length) (n := wt L148) (by rw [eL148]; exact (len_s L70 y145.1).symm) (by rw [eL148]; exact (wt_app L70 y145.1).symm) ?_
                  have hT : L140 = L148 ++ w147.1 := by rw [hT148, eL148]
                  have h2 : y138.2 = w147.2 := by rw [h2, ew147]
                  have hl := lv_sub (l' := [(1, va_re ad71 (M.2 b3 0)), (0, .ref (ad71 a))]) hl [0, 1] rfl
                  have e9 : ([(1, va_re ad71 (M.2 b3 0)), (0, .ref (ad71 a))] : List (Nat × Value)) = [(1, va_re ad149 (M.2 b3 0)), (0, .ref (ad149 a))] := (by first | rfl | simp only [agr_re hn150 hq146, hn150 a hc])
                  rw [e9] at hl
                  clear e9
                  have hk : (xt G L148).2.1 a = 0 := by rw [eL148]; exact xt_k _ hc hk
                  have hc : a < (xt G L148).1 := by rw [eL148]; exact xt_l _ hc
                  have hk2 : (xt G L148).2.1 b2 = 9 := by rw [eL148]; exact xt_k _ hc2 hk2
                  have hc2 : b2 < (xt G L148).1 := by rw [eL148]; exact xt_l _ hc2
                  have hk3 : (xt G L148).2.1 b3 = 3 := by rw [eL148]; exact xt_k _ hc3 hk3
                  have hc3 : b3 < (xt G L148).1 := by rw [eL148]; exact xt_l _ hc3
                  have hk4 : (xt G L148).2.1 b4 = 13 := by rw [eL148]; exact xt_k _ hc4 hk4
                  have hc4 : b4 < (xt G L148).1 := by rw [eL148]; exact xt_l _ hc4
                  have hk6 : (xt G L148).2.1 b6 = 10 := by rw [eL148]; exact xt_k _ hc6 hk6
                  have hc6 : b6 < (xt G L148).1 := by rw [eL148]; exact xt_l _ hc6
                  have hk14 : (xt G L148).2.1 b14 = 10 := by rw [eL148]; exact xt_k _ hc14 hk14
                  have hc14 : b14 < (xt G L148).1 := by rw [eL148]; exact xt_l _ hc14
                  have hk21 : (xt G L148).2.1 b21 = 10 := by rw [eL148]; exact xt_k _ hc21 hk21
                  have hc21 : b21 < (xt G L148).1 := by rw [eL148]; exact xt_l _ hc21
                  have hk30 : (xt G L148).2.1 b30 = 10 := by rw [eL148]; exact xt_k _ hc30 hk30
                  have hc30 : b30 < (xt G L148).1 := by rw [eL148]; exact xt_l _ hc30
                  have hk37 : (xt G L148).2.1 b37 = 9 := by rw [eL148]; exact xt_k _ hc37 hk37
                  have hc37 : b37 < (xt G L148).1 := by rw [eL148]; exact xt_l _ hc37
                  have hk38 : (xt G L148).2.1 b38 = 3 := by rw [eL148]; exact xt_k _ hc38 hk38
                  have hc38 : b38 < (xt G L148).1 := by rw [eL148]; exact xt_l _ hc38
                  have hk44 : (xt G L148).2.1 b44 = 13 := by rw [eL148]; exact xt_k _ hc44 hk44
                  have hc44 : b44 < (xt G L148).1 := by rw [eL148]; exact xt_l _ hc44
                  have hk65 : (xt G L148).2.1 b65 = 9 := by rw [eL148]; exact xt_k _ hc65 hk65
                  have hc65 : b65 < (xt G L148).1 := by rw [eL148]; exact xt_l _ hc65
                  have hk66 : (xt G L148).2.1 b66 = 3 := by rw [eL148]; exact xt_k _ hc66 hk66
                  have hc66 : b66 < (xt G L148).1 := by rw [eL148]; exact xt_l _ hc66
                  have hk72 : (xt G L148).2.1 b72 = 9 := by rw [eL148]; exact xt_k _ hc72 hk72
                  have hc72 : b72 < (xt G L148).1 := by rw [eL148]; exact xt_l _ hc72
                  have hk73 : (xt G L148).2.1 b73 = 13 := by rw [eL148]; exact xt_k _ hc73 hk73
                  have hc73 : b73 < (xt G L148).1 := by rw [eL148]; exact xt_l _ hc73
                  have hk144 : (xt G L148).2.1 b144 = 10 := by rw [eL148]; exact xt_k _ hc144 hk144
                  have hc144 : b144 < (xt G L148).1 := by rw [eL148]; exact xt_l _ hc144
                  have hag := agr_t (xt_ge _ _) hag hn150
                  obtain rfl := Option.some.inj hF
                  have e1 : L140 = L148 := by rw [hT]; exact List.append_nil _
                  have e2 : y138.2 = y145.2 := h2
                  rw [e1] at J138
                  try rw [e2] at J138
                  exact J138 _ hag _ _ _ hP hD hS (lv_sub hl [0, 1] rfl)
            clear hF
            obtain ⟨w151, hw151⟩ : ∃ z, z = y68 := ⟨_, rfl⟩
            have hF := hy68
            rw [← hw151] at hF
            clear hy68
            have hT : L70 = L63 ++ w151.1 := by rw [eL70, hw151]
            have h2 : y68.2 = w151.2 := by rw [hw151]
            have hbl := hbl70
            refine lv_if_eq (tgt := 166) hx hb dX0_writeHeader_158 (by decide) (fun c152 => ?_) (fun c152 => ?_)
            · rw [if_pos c152] at hF
              obtain rfl := Option.some.inj hF
              have e1 : L70 = L63 := by rw [hT]; exact List.append_nil _
              have e2 : y68.2 = y67.1 := h2
              rw [e1] at J68
              try rw [e2] at J68
              exact J68 _ hag _ _ _ hP hD hS (lv_sub hl [0, 1] rfl)
            · rw [if_neg c152] at hF
              refine lv_aload_n hx hb dX0_writeHeader_161 rfl (lv_at hl 1 rfl) ?_
              refine lv_iconst (v := (0 : Int32)) hx hb dX0_writeHeader_162 (by decide) ?_
              obtain ⟨hq154, hF⟩ := chk_some hF
              obtain ⟨y153, hy153, hF⟩ := bnd_some hF
              obtain ⟨w155, hF, ew155⟩ := app_some hF
              obtain ⟨L156, eL156, hF⟩ := ltt_some hF
              have hT156 : L70 = (L63 ++ y153.1) ++ w155.1 := by rw [hT, ew155]; simp only [List.append_assoc]
              have hf9 := wA_in hD hA9 hS
              refine va_callv (va_runV (As := [.int (0 : Int32)]) (rest := []) ⟨hx, hb, hml, hown, hts⟩ (kX0_flag l D ct ad64 Z (xt G L63) y67.1 _ a ((0 : Int32)) y153 hc hk hy153) (cwV 1 hts gX0_writeHeader_X0_flag rfl rfl rfl (by decide +kernel) ⟨Nat.le_of_ble_eq_true rfl, Nat.le_of_ble_eq_true rfl⟩) ⟨fun a U g mk q => by obtain ⟨q0, q1, qP, qK, qD, qZ, qN⟩ := q; exact ⟨q0, q1, qP, va_K.moved (u := U) (U := U.calling g mk a) (Vm.Alike.refl U.vm) qK, qD, sF.moved (u := U) (U := U.calling g mk a) (Vm.Alike.refl U.vm) qZ, nF.same rfl qN⟩, va_recv hK hP (ci := 0) (q0 := a) rfl (wld_o ct ad64 (xt G L63) y67.1 hc hk (by decide)), fun U hU hW => ⟨rfl, by rw [hU], by rw [hU]; exact hP, va_K.moved hW.alike hK, hD.weaken (fun _ _ _ _ => trivial), by rw [hU]; exact ((hZ.kept hS.2.1).narrow hf9).moved hW.alike, hN.warm hW⟩⟩ rfl rfl hl.1 rfl (lv_room (Nat.le_of_ble_eq_true rfl)) dX0_writeHeader_163 (room_s hT156 hbl)) hS (fun q _ h => hf9 q h) hf9 (fun ad157 t H locs ht hvm hw hB hz1 hk1 hS => ?_)
              have hn158 := hw
              obtain ⟨hP, hK9, hD9⟩ := hB
              rw [ht] at hP
              have hD := hD9.weaken (fun _ q _ h => hf9 q.1 h)
              rw [xt_xt, ← eL156] at hP hD
              refine W_cs (k := L156.length) (n := wt L156) (by rw [eL156]; exact (len_s L63 y153.1).symm) (by rw [eL156]; exact (wt_app L63 y153.1).symm) ?_
              have hT : L70 = L156 ++ w155.1 := by rw [hT156, eL156]
              have h2 : y68.2 = w155.2 := by rw [h2, ew155]
              have hl := lv_sub (l' := [(1, va_re ad64 (M.2 b3 0)), (0, .ref (ad64 a))]) hl [0, 1] rfl
              have e9 : ([(1, va_re ad64 (M.2 b3 0)), (0, .ref (ad64 a))] : List (Nat × Value)) = [(1, va_re ad157 (M.2 b3 0)), (0, .ref (ad157 a))] := (by first | rfl | simp only [agr_re hn158 hq154, hn158 a hc])
              rw [e9] at hl
              clear e9
              have hk : (xt G L156).2.1 a = 0 := by rw [eL156]; exact xt_k _ hc hk
              have hc : a < (xt G L156).1 := by rw [eL156]; exact xt_l _ hc
              have hk2 : (xt G L156).2.1 b2 = 9 := by rw [eL156]; exact xt_k _ hc2 hk2
              have hc2 : b2 < (xt G L156).1 := by rw [eL156]; exact xt_l _ hc2
              have hk3 : (xt G L156).2.1 b3 = 3 := by rw [eL156]; exact xt_k _ hc3 hk3
              have hc3 : b3 < (xt G L156).1 := by rw [eL156]; exact xt_l _ hc3
              have hk4 : (xt G L156).2.1 b4 = 13 := by rw [eL156]; exact xt_k _ hc4 hk4
              have hc4 : b4 < (xt G L156).1 := by rw [eL156]; exact xt_l _ hc4
              have hk6 : (xt G L156).2.1 b6 = 10 := by rw [eL156]; exact xt_k _ hc6 hk6
              have hc6 : b6 < (xt G L156).1 := by rw [eL156]; exact xt_l _ hc6
              have hk14 : (xt G L156).2.1 b14 = 10 := by rw [eL156]; exact xt_k _ hc14 hk14
              have hc14 : b14 < (xt G L156).1 := by rw [eL156]; exact xt_l _ hc14
              have hk21 : (xt G L156).2.1 b21 = 10 := by rw [eL156]; exact xt_k _ hc21 hk21
              have hc21 : b21 < (xt G L156).1 := by rw [eL156]; exact xt_l _ hc21
              have hk30 : (xt G L156).2.1 b30 = 10 := by rw [eL156]; exact xt_k _ hc30 hk30
              have hc30 : b30 < (xt G L156).1 := by rw [eL156]; exact xt_l _ hc30
              have hk37 : (xt G L156).2.1 b37 = 9 := by rw [eL156]; exact xt_k _ hc37 hk37
              have hc37 : b37 < (xt G L156).1 := by rw [eL156]; exact xt_l _ hc37
              have hk38 : (xt G L156).2.1 b38 = 3 := by rw [eL156]; exact xt_k _ hc38 hk38
              have hc38 : b38 < (xt G L156).1 := by rw [eL156]; exact xt_l _ hc38
              have hk44 : (xt G L156).2.1 b44 = 13 := by rw [eL156]; exact xt_k _ hc44 hk44
              have hc44 : b44 < (xt G L156).1 := by rw [eL156]; exact xt_l _ hc44
              have hk65 : (xt G L156).2.1 b65 = 9 := by rw [eL156]; exact xt_k _ hc65 hk65
              have hc65 : b65 < (xt G L156).1 := by rw [eL156]; exact xt_l _ hc65
              have hk66 : (xt G L156).2.1 b66 = 3 := by rw [eL156]; exact xt_k _ hc66 hk66
              have hc66 : b66 < (xt G L156).1 := by rw [eL156]; exact xt_l _ hc66
              have hag := agr_t (xt_ge _ _) hag hn158
              obtain rfl := Option.some.inj hF
              have e1 : L70 = L156 := by rw [hT]; exact List.append_nil _
              have e2 : y68.2 = y153.2 := h2
              rw [e1] at J68
              try rw [e2] at J68
              exact J68 _ hag _ _ _ hP hD hS (lv_sub hl [0, 1] rfl)
          clear hF
          obtain ⟨w159, hw159⟩ : ∃ z, z = y61 := ⟨_, rfl⟩
          have hF := hy61
          rw [← hw159] at hF
          clear hy61
          have hT : L63 = L58 ++ w159.1 := by rw [eL63, hw159]
          have h2 : y61.2 = w159.2 := by rw [hw159]
          have hbl := hbl63
          refine lv_if_eq (tgt := 148) hx hb dX0_writeHeader_140 (by decide) (fun c160 => ?_) (fun c160 => ?_)
          · rw [if_pos c160] at hF
            obtain rfl := Option.some.inj hF
            have e1 : L63 = L58 := by rw [hT]; exact List.append_nil _
            have e2 : y61.2 = y56.2 := h2
            rw [e1] at J61
            try rw [e2] at J61
            exact J61 _ hag _ _ _ hP hD hS (lv_sub hl [0, 1] rfl)
          · rw [if_neg c160] at hF
            refine lv_aload_n hx hb dX0_writeHeader_143 rfl (lv_at hl 1 rfl) ?_
            refine lv_iconst (v := (0 : Int32)) hx hb dX0_writeHeader_144 (by decide) ?_
            obtain ⟨hq162, hF⟩ := chk_some hF
            obtain ⟨y161, hy161, hF⟩ := bnd_some hF
            obtain ⟨w163, hF, ew163⟩ := app_some hF
            obtain ⟨L164, eL164, hF⟩ := ltt_some hF
            have hT164 : L63 = (L58 ++ y161.1) ++ w163.1 := by rw [hT, ew163]; simp only [List.append_assoc]
            have hf9 := wA_in hD hA9 hS
            refine va_callv (va_runV (As := [.int (0 : Int32)]) (rest := []) ⟨hx, hb, hml, hown, hts⟩ (kX0_flag l D ct ad59 Z (xt G L58) y56.2 _ a ((0 : Int32)) y161 hc hk hy161) (cwV 1 hts gX0_writeHeader_X0_flag rfl rfl rfl (by decide +kernel) ⟨Nat.le_of_ble_eq_true rfl, Nat.le_of_ble_eq_true rfl⟩) ⟨fun a U g mk q => by obtain ⟨q0, q1, qP, qK, qD, qZ, qN⟩ := q; exact ⟨q0, q1, qP, va_K.moved (u := U) (U := U.calling g mk a) (Vm.Alike.refl U.vm) qK, qD, sF.moved (u := U) (U := U.calling g mk a) (Vm.Alike.refl U.vm) qZ, nF.same rfl qN⟩, va_recv hK hP (ci := 0) (q0 := a) rfl (wld_o ct ad59 (xt G L58) y56.2 hc hk (by decide)), fun U hU hW => ⟨rfl, by rw [hU], by rw [hU]; exact hP, va_K.moved hW.alike hK, hD.weaken (fun _ _ _ _ => trivial), by rw [hU]; exact ((hZ.kept hS.2.1).narrow hf9).moved hW.alike, hN.warm hW⟩⟩ rfl rfl hl.1 rfl (lv_room (Nat.le_of_ble_eq_true rfl)) dX0_writeHeader_145 (room_s hT164 hbl)) hS (fun q _ h => hf9 q h) hf9 (fun ad165 t H locs ht hvm hw hB hz1 hk1 hS => ?_)
            have hn166 := hw
            obtain ⟨hP, hK9, hD9⟩ := hB
            rw [ht] at hP
            have hD := hD9.weaken (fun _ q _ h => hf9 q.1 h)
            rw [xt_xt, ← eL164] at hP hD
            refine W_cs (k := L164.length) (n := wt L164) (by rw [eL164]; exact (len_s L58 y161.1).symm) (by rw [eL164]; exact (wt_app L58 y161.1).symm) ?_
            have hT : L63 = L164 ++ w163.1 := by rw [hT164, eL164]
            have h2 : y61.2 = w163.2 := by rw [h2, ew163]
            have hl := lv_sub (l' := [(1, va_re ad59 (M.2 b3 0)), (0, .ref (ad59 a))]) hl [0, 1] rfl
            have e9 : ([(1, va_re ad59 (M.2 b3 0)), (0, .ref (ad59 a))] : List (Nat × Value)) = [(1, va_re ad165 (M.2 b3 0)), (0, .ref (ad165 a))] := (by first | rfl | simp only [agr_re hn166 hq162, hn166 a hc])
            rw [e9] at hl
            clear e9
            have hk : (xt G L164).2.1 a = 0 := by rw [eL164]; exact xt_k _ hc hk
            have hc : a < (xt G L164).1 := by rw [eL164]; exact xt_l _ hc
            have hk2 : (xt G L164).2.1 b2 = 9 := by rw [eL164]; exact xt_k _ hc2 hk2
            have hc2 : b2 < (xt G L164).1 := by rw [eL164]; exact xt_l _ hc2
            have hk3 : (xt G L164).2.1 b3 = 3 := by rw [eL164]; exact xt_k _ hc3 hk3
            have hc3 : b3 < (xt G L164).1 := by rw [eL164]; exact xt_l _ hc3
            have hk4 : (xt G L164).2.1 b4 = 13 := by rw [eL164]; exact xt_k _ hc4 hk4
            have hc4 : b4 < (xt G L164).1 := by rw [eL164]; exact xt_l _ hc4
            have hk6 : (xt G L164).2.1 b6 = 10 := by rw [eL164]; exact xt_k _ hc6 hk6
            have hc6 : b6 < (xt G L164).1 := by rw [eL164]; exact xt_l _ hc6
            have hk14 : (xt G L164).2.1 b14 = 10 := by rw [eL164]; exact xt_k _ hc14 hk14
            have hc14 : b14 < (xt G L164).1 := by rw [eL164]; exact xt_l _ hc14
            have hk21 : (xt G L164).2.1 b21 = 10 := by rw [eL164]; exact xt_k _ hc21 hk21
            have hc21 : b21 < (xt G L164).1 := by rw [eL164]; exact xt_l _ hc21
            have hk30 : (xt G L164).2.1 b30 = 10 := by rw [eL164]; exact xt_k _ hc30 hk30
            have hc30 : b30 < (xt G L164).1 := by rw [eL164]; exact xt_l _ hc30
            have hk37 : (xt G L164).2.1 b37 = 9 := by rw [eL164]; exact xt_k _ hc37 hk37
            have hc37 : b37 < (xt G L164).1 := by rw [eL164]; exact xt_l _ hc37
            have hk38 : (xt G L164).2.1 b38 = 3 := by rw [eL164]; exact xt_k _ hc38 hk38
            have hc38 : b38 < (xt G L164).1 := by rw [eL164]; exact xt_l _ hc38
            have hk44 : (xt G L164).2.1 b44 = 13 := by rw [eL164]; exact xt_k _ hc44 hk44
            have hc44 : b44 < (xt G L164).1 := by rw [eL164]; exact xt_l _ hc44
            have hag := agr_t (xt_ge _ _) hag hn166
            obtain rfl := Option.some.inj hF
            have e1 : L63 = L164 := by rw [hT]; exact List.append_nil _
            have e2 : y61.2 = y161.2 := h2
            rw [e1] at J61
            try rw [e2] at J61
            exact J61 _ hag _ _ _ hP hD hS (lv_sub hl [0, 1] rfl)
        clear hF
        obtain ⟨w167, hw167⟩ : ∃ z, z = y56 := ⟨_, rfl⟩
        have hF := hy56
        rw [← hw167] at hF
        clear hy56
        have hT : L58 = L53 ++ w167.1 := by rw [eL58, hw167]
        have h2 : y56.2 = w167.2 := by rw [hw167]
        have hbl := hbl58
        refine lv_if_ne (tgt := 136) hx hb dX0_writeHeader_118 (by decide) (fun c168 => ?_) (fun c168 => ?_)
        · rw [if_neg c168] at hF
          obtain rfl := Option.some.inj hF
          have e1 : L58 = L53 := by rw [hT]; exact List.append_nil _
          have e2 : y56.2 = y51.2 := h2
          rw [e1] at J56
          try rw [e2] at J56
          exact J56 _ hag _ _ _ hP hD hS (lv_sub hl [0, 1] rfl)
        · rw [if_pos c168] at hF
          refine lv_aload_n hx hb dX0_writeHeader_121 rfl (lv_at hl 1 rfl) ?_
          refine va_get (D := D) (ci := 0) (v := va_re ad54 (y51.2.2 a 1)) (C := RX0) (T := TX0) (N := 21) hx hb hts (by decide +kernel) hown hK hP a (wld_o ct ad54 (xt G L53) y51.2 hc hk (by decide)) rfl 1 (by decide) (hts (.fieldLink RX0 23 "VideoSuite$Coder" "now" "[I") (by decide +kernel)) (fun _ h9 => h9) rfl dX0_writeHeader_122 ?_
          refine lv_bipush (v := (20 : Int32)) hx hb dX0_writeHeader_125 (by decide) ?_
          obtain ⟨b169, ho169, hc169, hk169, hF⟩ := dr_some hF
          refine W_st (st' := [.int (20 : Int32), .ref (ad54 b169)]) (by rw [va_some ho169]) ?_
          obtain ⟨hvc, hF⟩ := chk_some hF
          refine va_iald hx hb hK hP b169 1 (wld_i ct ad54 (xt G L53) y51.2 hc169 hk169) rfl hvc dX0_writeHeader_127 ?_
          obtain ⟨x170, ex170, hF⟩ := ltt_some hF
          refine lv_topi (fun zx170 ezx170 => ?_)
          obtain rfl : x170 = zx170 := ex170.trans ezx170.symm
          refine lv_iconst (v := (1 : Int32)) hx hb dX0_writeHeader_128 (by decide) ?_
          obtain ⟨y171, hy171, hF⟩ := bnd_some hF
          obtain ⟨w172, hF, ew172⟩ := app_some hF
          obtain ⟨L173, eL173, hF⟩ := ltt_some hF
          have hT173 : L58 = (L53 ++ y171.1) ++ w172.1 := by rw [hT, ew172]; simp only [List.append_assoc]
          have hbl173 : L173.length ≤ y.1.length ∧ wt L173 ≤ wt y.1 := by rw [eL173]; exact room_d hT173 hbl
          have J171 : ∀ (ad174 : Nat → Nat), agr G.1 ad ad174 → ∀ (H : Heap) (locs : List Loc) (ls : Array Slot), va_P D classes (wld ct ad174 (xt G L173) y171.2) H → va_D A (wld ct ad174 (xt G L173) y171.2) → va_S A s.heap H locs → lv_has ls 2 [(1, va_re ad174 (M.2 b3 0)), (0, .ref (ad174 a))] → W p l e (headSpec wsX0_writeHeader ({ frames := 7, cells := y.1.length, slots := wt y.1, locals := 220 })).room s m ([.ref (ad a)] : List Value).toArray below meth c H locs (L173 : NN).length (wt L173) (MQ below (va_Qv (fun (u : Nat → Nat) => agr G.1 ad u) (fun u t => kE D ct u (xt G y.1) A y.2 t) A) ([.ref (ad a)] : List Value).toArray s y.1.length (wt y.1) A) (F0 m 136 ls []) := by
            intro ad174 hag H locs ls hP hD hS hl
            have hT : L58 = L173 ++ w172.1 := by rw [hT173, eL173]
            have h2 : y56.2 = w172.2 := by rw [h2, ew172]
            have hk : (xt G L173).2.1 a = 0 := by rw [eL173]; exact xt_k _ hc hk
            have hc : a < (xt G L173).1 := by rw [eL173]; exact xt_l _ hc
            have hk2 : (xt G L173).2.1 b2 = 9 := by rw [eL173]; exact xt_k _ hc2 hk2
            have hc2 : b2 < (xt G L173).1 := by rw [eL173]; exact xt_l _ hc2
            have hk3 : (xt G L173).2.1 b3 = 3 := by rw [eL173]; exact xt_k _ hc3 hk3
            have hc3 : b3 < (xt G L173).1 := by rw [eL173]; exact xt_l _ hc3
            have hk4 : (xt G L173).2.1 b4 = 13 := by rw [eL173]; exact xt_k _ hc4 hk4
            have hc4 : b4 < (xt G L173).1 := by rw [eL173]; exact xt_l _ hc4
            have hk6 : (xt G L173).2.1 b6 = 10 := by rw [eL173]; exact xt_k _ hc6 hk6
            have hc6 : b6 < (xt G L173).1 := by rw [eL173]; exact xt_l _ hc6
            have hk14 : (xt G L173).2.1 b14 = 10 := by rw [eL173]; exact xt_k _ hc14 hk14
            have hc14 : b14 < (xt G L173).1 := by rw [eL173]; exact xt_l _ hc14
            have hk21 : (xt G L173).2.1 b21 = 10 := by rw [eL173]; exact xt_k _ hc21 hk21
            have hc21 : b21 < (xt G L173).1 := by rw [eL173]; exact xt_l _ hc21
            have hk30 : (xt G L173).2.1 b30 = 10 := by rw [eL173]; exact xt_k _ hc30 hk30
            have hc30 : b30 < (xt G L173).1 := by rw [eL173]; exact xt_l _ hc30
            have hk37 : (xt G L173).2.1 b37 = 9 := by rw [eL173]; exact xt_k _ hc37 hk37
            have hc37 : b37 < (xt G L173).1 := by rw [eL173]; exact xt_l _ hc37
            have hk38 : (xt G L173).2.1 b38 = 3 := by rw [eL173]; exact xt_k _ hc38 hk38
            have hc38 : b38 < (xt G L173).1 := by rw [eL173]; exact xt_l _ hc38
            have hk44 : (xt G L173).2.1 b44 = 13 := by rw [eL173]; exact xt_k _ hc44 hk44
            have hc44 : b44 < (xt G L173).1 := by rw [eL173]; exact xt_l _ hc44
            have hk169 : (xt G L173).2.1 b169 = 13 := by rw [eL173]; exact xt_k _ hc169 hk169
            have hc169 : b169 < (xt G L173).1 := by rw [eL173]; exact xt_l _ hc169
            obtain rfl := Option.some.inj hF
            have e1 : L58 = L173 := by rw [hT]; exact List.append_nil _
            have e2 : y56.2 = y171.2 := h2
            rw [e1] at J56
            try rw [e2] at J56
            exact J56 _ hag _ _ _ hP hD hS (lv_sub hl [0, 1] rfl)
          clear hF
          obtain ⟨w175, hw175⟩ : ∃ z, z = y171 := ⟨_, rfl⟩
          have hF := hy171
          rw [← hw175] at hF
          clear hy171
          have hT : L173 = L53 ++ w175.1 := by rw [eL173, hw175]
          have h2 : y171.2 = w175.2 := by rw [hw175]
          have hbl := hbl173
          refine lv_icmp_ne (tgt := 136) hx hb dX0_writeHeader_129 (by decide) (fun c176 => ?_) (fun c176 => ?_)
          · rw [if_neg c176] at hF
            obtain rfl := Option.some.inj hF
            have e1 : L173 = L53 := by rw [hT]; exact List.append_nil _
            have e2 : y171.2 = y51.2 := h2
            rw [e1] at J171
            try rw [e2] at J171
            exact J171 _ hag _ _ _ hP hD hS (lv_sub hl [0, 1] rfl)
          · rw [if_pos c176] at hF
            refine lv_aload_n hx hb dX0_writeHeader_132 rfl (lv_at hl 1 rfl) ?_
            obtain ⟨hq178, hF⟩ := chk_some hF
            obtain ⟨y177, hy177, hF⟩ := bnd_some hF
            obtain ⟨w179, hF, ew179⟩ := app_some hF
            obtain ⟨L180, eL180, hF⟩ := ltt_some hF
            have hT180 : L173 = (L53 ++ y177.1) ++ w179.1 := by rw [hT, ew179]; simp only [List.append_assoc]
            have hf9 := wA_in hD hA9 hS
            refine va_callv (va_runV (As := []) (rest := []) ⟨hx, hb, hml, hown, hts⟩ (kX0_writeWeights l D ct ad54 Z (xt G L53) y51.2 _ a y177 hc hk hy177) (cwV 0 hts gX0_writeHeader_X0_writeWeights rfl rfl rfl (by decide +kernel) ⟨Nat.le_of_ble_eq_true rfl, Nat.le_of_ble_eq_true rfl⟩) ⟨fun a U g mk q => by obtain ⟨q0, q1, qP, qK, qD, qZ, qN⟩ := q; exact ⟨q0, q1, qP, va_K.moved (u := U) (U := U.calling g mk a) (Vm.Alike.refl U.vm) qK, qD, sF.moved (u := U) (U := U.calling g mk a) (Vm.Alike.refl U.vm) qZ, nF.same rfl qN⟩, va_recv hK hP (ci := 0) (q0 := a) rfl (wld_o ct ad54 (xt G L53) y51.2 hc hk (by decide)), fun U hU hW => ⟨rfl, by rw [hU], by rw [hU]; exact hP, va_K.moved hW.alike hK, hD.weaken (fun _ _ _ _ => trivial), by rw [hU]; exact ((hZ.kept hS.2.1).narrow hf9).moved hW.alike, hN.warm hW⟩⟩ rfl rfl hl.1 rfl (lv_room (Nat.le_of_ble_eq_true rfl)) dX0_writeHeader_133 (room_s hT180 hbl)) hS (fun q _ h => hf9 q h) hf9 (fun ad181 t H locs ht hvm hw hB hz1 hk1 hS => ?_)
            have hn182 := hw
            obtain ⟨hP, hK9, hD9⟩ := hB
            rw [ht] at hP
            have hD := hD9.weaken (fun _ q _ h => hf9 q.1 h)
            rw [xt_xt, ← eL180] at hP hD
            refine W_cs (k := L180.length) (n := wt L180) (by rw [eL180]; exact (len_s L53 y177.1).symm) (by rw [eL180]; exact (wt_app L53 y177.1).symm) ?_
            have hT : L173 = L180 ++ w179.1 := by rw [hT180, eL180]
            have h2 : y171.2 = w179.2 := by rw [h2, ew179]
            have hl := lv_sub (l' := [(1, va_re ad54 (M.2 b3 0)), (0, .ref (ad54 a))]) hl [0, 1] rfl
            have e9 : ([(1, va_re ad54 (M.2 b3 0)), (0, .ref (ad54 a))] : List (Nat × Value)) = [(1, va_re ad181 (M.2 b3 0)), (0, .ref (ad181 a))] := (by first | rfl | simp only [agr_re hn182 hq178, hn182 a hc])
            rw [e9] at hl
            clear e9
            have hk : (xt G L180).2.1 a = 0 := by rw [eL180]; exact xt_k _ hc hk
            have hc : a < (xt G L180).1 := by rw [eL180]; exact xt_l _ hc
            have hk2 : (xt G L180).2.1 b2 = 9 := by rw [eL180]; exact xt_k _ hc2 hk2
            have hc2 : b2 < (xt G L180).1 := by rw [eL180]; exact xt_l _ hc2
            have hk3 : (xt G L180).2.1 b3 = 3 := by rw [eL180]; exact xt_k _ hc3 hk3
            have hc3 : b3 < (xt G L180).1 := by rw [eL180]; exact xt_l _ hc3
            have hk4 : (xt G L180).2.1 b4 = 13 := by rw [eL180]; exact xt_k _ hc4 hk4
            have hc4 : b4 < (xt G L180).1 := by rw [eL180]; exact xt_l _ hc4
            have hk6 : (xt G L180).2.1 b6 = 10 := by rw [eL180]; exact xt_k _ hc6 hk6
            have hc6 : b6 < (xt G L180).1 := by rw [eL180]; exact xt_l _ hc6
            have hk14 : (xt G L180).2.1 b14 = 10 := by rw [eL180]; exact xt_k _ hc14 hk14
            have hc14 : b14 < (xt G L180).1 := by rw [eL180]; exact xt_l _ hc14
            have hk21 : (xt G L180).2.1 b21 = 10 := by rw [eL180]; exact xt_k _ hc21 hk21
            have hc21 : b21 < (xt G L180).1 := by rw [eL180]; exact xt_l _ hc21
            have hk30 : (xt G L180).2.1 b30 = 10 := by rw [eL180]; exact xt_k _ hc30 hk30
            have hc30 : b30 < (xt G L180).1 := by rw [eL180]; exact xt_l _ hc30
            have hk37 : (xt G L180).2.1 b37 = 9 := by rw [eL180]; exact xt_k _ hc37 hk37
            have hc37 : b37 < (xt G L180).1 := by rw [eL180]; exact xt_l _ hc37
            have hk38 : (xt G L180).2.1 b38 = 3 := by rw [eL180]; exact xt_k _ hc38 hk38
            have hc38 : b38 < (xt G L180).1 := by rw [eL180]; exact xt_l _ hc38
            have hk44 : (xt G L180).2.1 b44 = 13 := by rw [eL180]; exact xt_k _ hc44 hk44
            have hc44 : b44 < (xt G L180).1 := by rw [eL180]; exact xt_l _ hc44
            have hk169 : (xt G L180).2.1 b169 = 13 := by rw [eL180]; exact xt_k _ hc169 hk169
            have hc169 : b169 < (xt G L180).1 := by rw [eL180]; exact xt_l _ hc169
            have hag := agr_t (xt_ge _ _) hag hn182
            obtain rfl := Option.some.inj hF
            have e1 : L173 = L180 := by rw [hT]; exact List.append_nil _
            have e2 : y171.2 = y177.2 := h2
            rw [e1] at J171
            try rw [e2] at J171
            exact J171 _ hag _ _ _ hP hD hS (lv_sub hl [0, 1] rfl)
      clear hF
      obtain ⟨w183, hw183⟩ : ∃ z, z = y51 := ⟨_, rfl⟩
      have hF := hy51
      rw [← hw183] at hF
      clear hy51
      have hT : L53 = L48 ++ w183.1 := by rw [eL53, hw183]
      have h2 : y51.2 = w183.2 := by rw [hw183]
      have hbl := hbl53
      refine lv_icmp_eq (tgt := 115) hx hb dX0_writeHeader_108 (by decide) (fun c184 => ?_) (fun c184 => ?_)
      · rw [if_pos c184] at hF
        obtain rfl := Option.some.inj hF
        have e1 : L53 = L48 := by rw [hT]; exact List.append_nil _
        have e2 : y51.2 = y46.2 := h2
        rw [e1] at J51
        try rw [e2] at J51
        exact J51 _ hag _ _ _ hP hD hS (lv_sub hl [0, 1] rfl)
      · rw [if_neg c184] at hF
        refine lv_aload_n hx hb dX0_writeHeader_111 rfl (lv_at hl 1 rfl) ?_
        obtain ⟨hq186, hF⟩ := chk_some hF
        obtain ⟨y185, hy185, hF⟩ := bnd_some hF
        obtain ⟨w187, hF, ew187⟩ := app_some hF
        obtain ⟨L188, eL188, hF⟩ := ltt_some hF
        have hT188 : L53 = (L48 ++ y185.1) ++ w187.1 := by rw [hT, ew187]; simp only [List.append_assoc]
        have hf9 := wA_in hD hA9 hS
        refine va_callv (va_runV (As := []) (rest := []) ⟨hx, hb, hml, hown, hts⟩ (kX0_writeLists l D ct ad49 Z (xt G L48) y46.2 _ a y185 hc hk hy185) (cwV 0 hts gX0_writeHeader_X0_writeLists rfl rfl rfl (by decide +kernel) ⟨Nat.le_of_ble_eq_true rfl, Nat.le_of_ble_eq_true rfl⟩) ⟨fun a U g mk q => by obtain ⟨q0, q1, qP, qK, qD, qZ, qN⟩ := q; exact ⟨q0, q1, qP, va_K.moved (u := U) (U := U.calling g mk a) (Vm.Alike.refl U.vm) qK, qD, sF.moved (u := U) (U := U.calling g mk a) (Vm.Alike.refl U.vm) qZ, nF.same rfl qN⟩, va_recv hK hP (ci := 0) (q0 := a) rfl (wld_o ct ad49 (xt G L48) y46.2 hc hk (by decide)), fun U hU hW => ⟨rfl, by rw [hU], by rw [hU]; exact hP, va_K.moved hW.alike hK, hD.weaken (fun _ _ _ _ => trivial), by rw [hU]; exact ((hZ.kept hS.2.1).narrow hf9).moved hW.alike, hN.warm hW⟩⟩ rfl rfl hl.1 rfl (lv_room (Nat.le_of_ble_eq_true rfl)) dX0_writeHeader_112 (room_s hT188 hbl)) hS (fun q _ h => hf9 q h) hf9 (fun ad189 t H locs ht hvm hw hB hz1 hk1 hS => ?_)
        have hn190 := hw
        obtain ⟨hP, hK9, hD9⟩ := hB
        rw [ht] at hP
        have hD := hD9.weaken (fun _ q _ h => hf9 q.1 h)
        rw [xt_xt, ← eL188] at hP hD
        refine W_cs (k := L188.length) (n := wt L188) (by rw [eL188]; exact (len_s L48 y185.1).symm) (by rw [eL188]; exact (wt_app L48 y185.1).symm) ?_
        have hT : L53 = L188 ++ w187.1 := by rw [hT188, eL188]
        have h2 : y51.2 = w187.2 := by rw [h2, ew187]
        have hl := lv_sub (l' := [(1, va_re ad49 (M.2 b3 0)), (0, .ref (ad49 a))]) hl [0, 1] rfl
        have e9 : ([(1, va_re ad49 (M.2 b3 0)), (0, .ref (ad49 a))] : List (Nat × Value)) = [(1, va_re ad189 (M.2 b3 0)), (0, .ref (ad189 a))] := (by first | rfl | simp only [agr_re hn190 hq186, hn190 a hc])
        rw [e9] at hl
        clear e9
        have hk : (xt G L188).2.1 a = 0 := by rw [eL188]; exact xt_k _ hc hk
        have hc : a < (xt G L188).1 := by rw [eL188]; exact xt_l _ hc
        have hk2 : (xt G L188).2.1 b2 = 9 := by rw [eL188]; exact xt_k _ hc2 hk2
        have hc2 : b2 < (xt G L188).1 := by rw [eL188]; exact xt_l _ hc2
        have hk3 : (xt G L188).2.1 b3 = 3 := by rw [eL188]; exact xt_k _ hc3 hk3
        have hc3 : b3 < (xt G L188).1 := by rw [eL188]; exact xt_l _ hc3
        have hk4 : (xt G L188).2.1 b4 = 13 := by rw [eL188]; exact xt_k _ hc4 hk4
        have hc4 : b4 < (xt G L188).1 := by rw [eL188]; exact xt_l _ hc4
        have hk6 : (xt G L188).2.1 b6 = 10 := by rw [eL188]; exact xt_k _ hc6 hk6
        have hc6 : b6 < (xt G L188).1 := by rw [eL188]; exact xt_l _ hc6
        have hk14 : (xt G L188).2.1 b14 = 10 := by rw [eL188]; exact xt_k _ hc14 hk14
        have hc14 : b14 < (xt G L188).1 := by rw [eL188]; exact xt_l _ hc14
        have hk21 : (xt G L188).2.1 b21 = 10 := by rw [eL188]; exact xt_k _ hc21 hk21
        have hc21 : b21 < (xt G L188).1 := by rw [eL188]; exact xt_l _ hc21
        have hk30 : (xt G L188).2.1 b30 = 10 := by rw [eL188]; exact xt_k _ hc30 hk30
        have hc30 : b30 < (xt G L188).1 := by rw [eL188]; exact xt_l _ hc30
        have hk37 : (xt G L188).2.1 b37 = 9 := by rw [eL188]; exact xt_k _ hc37 hk37
        have hc37 : b37 < (xt G L188).1 := by rw [eL188]; exact xt_l _ hc37
        have hk38 : (xt G L188).2.1 b38 = 3 := by rw [eL188]; exact xt_k _ hc38 hk38
        have hc38 : b38 < (xt G L188).1 := by rw [eL188]; exact xt_l _ hc38
        have hk44 : (xt G L188).2.1 b44 = 13 := by rw [eL188]; exact xt_k _ hc44 hk44
        have hc44 : b44 < (xt G L188).1 := by rw [eL188]; exact xt_l _ hc44
        have hag := agr_t (xt_ge _ _) hag hn190
        obtain rfl := Option.some.inj hF
        have e1 : L53 = L188 := by rw [hT]; exact List.append_nil _
        have e2 : y51.2 = y185.2 := h2
        rw [e1] at J51
        try rw [e2] at J51
        exact J51 _ hag _ _ _ hP hD hS (lv_sub hl [0, 1] rfl)
    clear hF
    obtain ⟨w191, hw191⟩ : ∃ z, z = y46 := ⟨_, rfl⟩
    have hF := hy46
    rw [← hw191] at hF
    clear hy46
    have hT : L48 = L42 ++ w191.1 := by rw [eL48, hw191]
    have h2 : y46.2 = w191.2 := by rw [hw191]
    have hbl := hbl48
    refine lv_if_ne (tgt := 104) hx hb dX0_writeHeader_87 (by decide) (fun c192 => ?_) (fun c192 => ?_)
    · rw [if_neg c192] at hF
      obtain rfl := Option.some.inj hF
      have e1 : L48 = L42 := by rw [hT]; exact List.append_nil _
      have e2 : y46.2 = y40.2 := h2
      rw [e1] at J46
      try rw [e2] at J46
      exact J46 _ hag _ _ _ hP hD hS (lv_sub hl [0, 1] rfl)
    · rw [if_pos c192] at hF
      refine lv_aload_n hx hb dX0_writeHeader_90 rfl (lv_at hl 1 rfl) ?_
      refine va_get (D := D) (ci := 0) (v := va_re ad43 (y40.2.2 a 2)) (C := RX0) (T := TX0) (N := 21) hx hb hts (by decide +kernel) hown hK hP a (wld_o ct ad43 (xt G L42) y40.2 hc hk (by decide)) rfl 2 (by decide) (hts (.fieldLink RX0 29 "VideoSuite$Coder" "writer" "LVideoSuite$Writer;") (by decide +kernel)) (fun _ h9 => h9) rfl dX0_writeHeader_91 ?_
      refine lv_iconst (v := (0 : Int32)) hx hb dX0_writeHeader_94 (by decide) ?_
      refine lv_aloadq_n hx hb dX0_writeHeader_95 rfl (lv_at hl 0 rfl) ?_
      refine lv_iconst (v := (5 : Int32)) hx hb dX0_writeHeader_96 (by decide) ?_
      refine W_st (st' := [.int (5 : Int32), .ref (ad43 b4), .int (0 : Int32), va_re ad43 (y40.2.2 a 2)]) (by rw [va_some ho4]) ?_
      obtain ⟨hvc, hF⟩ := chk_some hF
      refine va_iald hx hb hK hP b4 1 (wld_i ct ad43 (xt G L42) y40.2 hc4 hk4) rfl hvc dX0_writeHeader_97 ?_
      obtain ⟨x193, ex193, hF⟩ := ltt_some hF
      refine lv_topi (fun zx193 ezx193 => ?_)
      obtain rfl : x193 = zx193 := ex193.trans ezx193.symm
      refine lv_i2l (v := x193.toInt64) hx hb dX0_writeHeader_98 rfl ?_
      obtain ⟨x194, ex194, hF⟩ := ltt_some hF
      refine lv_topl (fun zx194 ezx194 => ?_)
      obtain rfl : x194 = zx194 := ex194.trans ezx194.symm
      refine lv_bipush (v := (8 : Int32)) hx hb dX0_writeHeader_99 (by decide) ?_
      obtain ⟨b195, ho195, hc195, hk195, hF⟩ := dr_some hF
      refine W_st (st' := [.int (8 : Int32), .long x194, .int (0 : Int32), .ref (ad43 b195)]) (by rw [va_some ho195]) ?_
      obtain ⟨hq197, hF⟩ := chk_some hF
      obtain ⟨y196, hy196, hF⟩ := bnd_some hF
      obtain ⟨w198, hF, ew198⟩ := app_some hF
      obtain ⟨L199, eL199, hF⟩ := ltt_some hF
      have hT199 : L48 = (L42 ++ y196.1) ++ w198.1 := by rw [hT, ew198]; simp only [List.append_assoc]
      have hf9 := wA_in hD hA9 hS
      refine va_callv (va_runV (As := [.int (0 : Int32), .long x194, .int (8 : Int32)]) (rest := []) ⟨hx, hb, hml, hown, hts⟩ (kX10_code l D ct ad43 Z (xt G L42) y40.2 _ b195 ((0 : Int32)) x194 ((8 : Int32)) y196 hc195 hk195 hy196) (cwV 3 hts gX0_writeHeader_X10_code rfl rfl rfl (by decide +kernel) ⟨Nat.le_of_ble_eq_true rfl, Nat.le_of_ble_eq_true rfl⟩) ⟨fun a U g mk q => by obtain ⟨q0, q1, qP, qK, qD, qZ, qN⟩ := q; exact ⟨q0, q1, qP, va_K.moved (u := U) (U := U.calling g mk a) (Vm.Alike.refl U.vm) qK, qD, sF.moved (u := U) (U := U.calling g mk a) (Vm.Alike.refl U.vm) qZ, nF.same rfl qN⟩, va_recv hK hP (ci := 10) (q0 := b195) rfl (wld_o ct ad43 (xt G L42) y40.2 hc195 hk195 (by decide)), fun U hU hW => ⟨rfl, by rw [hU], by rw [hU]; exact hP, va_K.moved hW.alike hK, hD.weaken (fun _ _ _ _ => trivial), by rw [hU]; exact ((hZ.kept hS.2.1).narrow hf9).moved hW.alike, hN.warm hW⟩⟩ rfl rfl hl.1 rfl (lv_room (Nat.le_of_ble_eq_true rfl)) dX0_writeHeader_101 (room_s hT199 hbl)) hS (fun q _ h => hf9 q h) hf9 (fun ad200 t H locs ht hvm hw hB hz1 hk1 hS => ?_)
      have hn201 := hw
      obtain ⟨hP, hK9, hD9⟩ := hB
      rw [ht] at hP
      have hD := hD9.weaken (fun _ q _ h => hf9 q.1 h)
      rw [xt_xt, ← eL199] at hP hD
      refine W_cs (k := L199.length) (n := wt L199) (by rw [eL199]; exact (len_s L42 y196.1).symm) (by rw [eL199]; exact (wt_app L42 y196.1).symm) ?_
      have hT : L48 = L199 ++ w198.1 := by rw [hT199, eL199]
      have h2 : y46.2 = w198.2 := by rw [h2, ew198]
      have hl := lv_sub (l' := [(1, va_re ad43 (M.2 b3 0)), (0, .ref (ad43 a))]) hl [0, 1] rfl
      have e9 : ([(1, va_re ad43 (M.2 b3 0)), (0, .ref (ad43 a))] : List (Nat × Value)) = [(1, va_re ad200 (M.2 b3 0)), (0, .ref (ad200 a))] := (by first | rfl | simp only [agr_re hn201 hq197, hn201 a hc])
      rw [e9] at hl
      clear e9
      have hk : (xt G L199).2.1 a = 0 := by rw [eL199]; exact xt_k _ hc hk
      have hc : a < (xt G L199).1 := by rw [eL199]; exact xt_l _ hc
      have hk2 : (xt G L199).2.1 b2 = 9 := by rw [eL199]; exact xt_k _ hc2 hk2
      have hc2 : b2 < (xt G L199).1 := by rw [eL199]; exact xt_l _ hc2
      have hk3 : (xt G L199).2.1 b3 = 3 := by rw [eL199]; exact xt_k _ hc3 hk3
      have hc3 : b3 < (xt G L199).1 := by rw [eL199]; exact xt_l _ hc3
      have hk4 : (xt G L199).2.1 b4 = 13 := by rw [eL199]; exact xt_k _ hc4 hk4
      have hc4 : b4 < (xt G L199).1 := by rw [eL199]; exact xt_l _ hc4
      have hk6 : (xt G L199).2.1 b6 = 10 := by rw [eL199]; exact xt_k _ hc6 hk6
      have hc6 : b6 < (xt G L199).1 := by rw [eL199]; exact xt_l _ hc6
      have hk14 : (xt G L199).2.1 b14 = 10 := by rw [eL199]; exact xt_k _ hc14 hk14
      have hc14 : b14 < (xt G L199).1 := by rw [eL199]; exact xt_l _ hc14
      have hk21 : (xt G L199).2.1 b21 = 10 := by rw [eL199]; exact xt_k _ hc21 hk21
      have hc21 : b21 < (xt G L199).1 := by rw [eL199]; exact xt_l _ hc21
      have hk30 : (xt G L199).2.1 b30 = 10 := by rw [eL199]; exact xt_k _ hc30 hk30
      have hc30 : b30 < (xt G L199).1 := by rw [eL199]; exact xt_l _ hc30
      have hk37 : (xt G L199).2.1 b37 = 9 := by rw [eL199]; exact xt_k _ hc37 hk37
      have hc37 : b37 < (xt G L199).1 := by rw [eL199]; exact xt_l _ hc37
      have hk38 : (xt G L199).2.1 b38 = 3 := by rw [eL199]; exact xt_k _ hc38 hk38
      have hc38 : b38 < (xt G L199).1 := by rw [eL199]; exact xt_l _ hc38
      have hk44 : (xt G L199).2.1 b44 = 13 := by rw [eL199]; exact xt_k _ hc44 hk44
      have hc44 : b44 < (xt G L199).1 := by rw [eL199]; exact xt_l _ hc44
      have hk195 : (xt G L199).2.1 b195 = 10 := by rw [eL199]; exact xt_k _ hc195 hk195
      have hc195 : b195 < (xt G L199).1 := by rw [eL199]; exact xt_l _ hc195
      have hag := agr_t (xt_ge _ _) hag hn201
      obtain rfl := Option.some.inj hF
      have e1 : L48 = L199 := by rw [hT]; exact List.append_nil _
      have e2 : y46.2 = y196.2 := h2
      rw [e1] at J46
      try rw [e2] at J46
      exact J46 _ hag _ _ _ hP hD hS (lv_sub hl [0, 1] rfl)
  clear hF
  obtain ⟨w202, hw202⟩ : ∃ z, z = y40 := ⟨_, rfl⟩
  have hF := hy40
  rw [← hw202] at hF
  clear hy40
  have hT : L42 = L34 ++ w202.1 := by rw [eL42, hw202]
  have h2 : y40.2 = w202.2 := by rw [hw202]
  have hbl := hbl42
  refine lv_if_eq (tgt := 80) hx hb dX0_writeHeader_66 (by decide) (fun c203 => ?_) (fun c203 => ?_)
  · rw [if_pos c203] at hF
    obtain rfl := Option.some.inj hF
    have e1 : L42 = L34 := by rw [hT]; exact List.append_nil _
    have e2 : y40.2 = y39.1 := h2
    rw [e1] at J40
    try rw [e2] at J40
    exact J40 _ hag _ _ _ hP hD hS (lv_sub hl [0, 1] rfl)
  · rw [if_neg c203] at hF
    refine lv_aload_n hx hb dX0_writeHeader_69 rfl (lv_at hl 1 rfl) ?_
    refine va_get (D := D) (ci := 0) (v := va_re ad35 (y39.1.2 a 2)) (C := RX0) (T := TX0) (N := 21) hx hb hts (by decide +kernel) hown hK hP a (wld_o ct ad35 (xt G L34) y39.1 hc hk (by decide)) rfl 2 (by decide) (hts (.fieldLink RX0 29 "VideoSuite$Coder" "writer" "LVideoSuite$Writer;") (by decide +kernel)) (fun _ h9 => h9) rfl dX0_writeHeader_70 ?_
    refine lv_iconst (v := (0 : Int32)) hx hb dX0_writeHeader_73 (by decide) ?_
    refine lv_aloadq_n hx hb dX0_writeHeader_74 rfl (lv_at hl 0 rfl) ?_
    refine lv_iconst (v := (4 : Int32)) hx hb dX0_writeHeader_75 (by decide) ?_
    refine W_st (st' := [.int (4 : Int32), .ref (ad35 b4), .int (0 : Int32), va_re ad35 (y39.1.2 a 2)]) (by rw [va_some ho4]) ?_
    obtain ⟨hvc, hF⟩ := chk_some hF
    refine va_iald hx hb hK hP b4 1 (wld_i ct ad35 (xt G L34) y39.1 hc4 hk4) rfl hvc dX0_writeHeader_76 ?_
    obtain ⟨x204, ex204, hF⟩ := ltt_some hF
    refine lv_topi (fun zx204 ezx204 => ?_)
    obtain rfl : x204 = zx204 := ex204.trans ezx204.symm
    obtain ⟨b205, ho205, hc205, hk205, hF⟩ := dr_some hF
    refine W_st (st' := [.int x204, .int (0 : Int32), .ref (ad35 b205)]) (by rw [va_some ho205]) ?_
    obtain ⟨hq207, hF⟩ := chk_some hF
    obtain ⟨y206, hy206, hF⟩ := bnd_some hF
    obtain ⟨w208, hF, ew208⟩ := app_some hF
    obtain ⟨L209, eL209, hF⟩ := ltt_some hF
    have hT209 : L42 = (L34 ++ y206.1) ++ w208.1 := by rw [hT, ew208]; simp only [List.append_assoc]
    have hf9 := wA_in hD hA9 hS
    refine va_callv (va_runV (As := [.int (0 : Int32), .int x204]) (rest := []) ⟨hx, hb, hml, hown, hts⟩ (kX10_ue l D ct ad35 Z (xt G L34) y39.1 _ b205 ((0 : Int32)) x204 y206 hc205 hk205 hy206) (cwV 2 hts gX0_writeHeader_X10_ue rfl rfl rfl (by decide +kernel) ⟨Nat.le_of_ble_eq_true rfl, Nat.le_of_ble_eq_true rfl⟩) ⟨fun a U g mk q => by obtain ⟨q0, q1, qP, qK, qD, qZ, qN⟩ := q; exact ⟨q0, q1, qP, va_K.moved (u := U) (U := U.calling g mk a) (Vm.Alike.refl U.vm) qK, qD, sF.moved (u := U) (U := U.calling g mk a) (Vm.Alike.refl U.vm) qZ, nF.same rfl qN⟩, va_recv hK hP (ci := 10) (q0 := b205) rfl (wld_o ct ad35 (xt G L34) y39.1 hc205 hk205 (by decide)), fun U hU hW => ⟨rfl, by rw [hU], by rw [hU]; exact hP, va_K.moved hW.alike hK, hD.weaken (fun _ _ _ _ => trivial), by rw [hU]; exact ((hZ.kept hS.2.1).narrow hf9).moved hW.alike, hN.warm hW⟩⟩ rfl rfl hl.1 rfl (lv_room (Nat.le_of_ble_eq_true rfl)) dX0_writeHeader_77 (room_s hT209 hbl)) hS (fun q _ h => hf9 q h) hf9 (fun ad210 t H locs ht hvm hw hB hz1 hk1 hS => ?_)
    have hn211 := hw
    obtain ⟨hP, hK9, hD9⟩ := hB
    rw [ht] at hP
    have hD := hD9.weaken (fun _ q _ h => hf9 q.1 h)
    rw [xt_xt, ← eL209] at hP hD
    refine W_cs (k := L209.length) (n := wt L209) (by rw [eL209]; exact (len_s L34 y206.1).symm) (by rw [eL209]; exact (wt_app L34 y206.1).symm) ?_
    have hT : L42 = L209 ++ w208.1 := by rw [hT209, eL209]
    have h2 : y40.2 = w208.2 := by rw [h2, ew208]
    have hl := lv_sub (l' := [(1, va_re ad35 (M.2 b3 0)), (0, .ref (ad35 a))]) hl [0, 1] rfl
    have e9 : ([(1, va_re ad35 (M.2 b3 0)), (0, .ref (ad35 a))] : List (Nat × Value)) = [(1, va_re ad210 (M.2 b3 0)), (0, .ref (ad210 a))] := (by first | rfl | simp only [agr_re hn211 hq207, hn211 a hc])
    rw [e9] at hl
    clear e9
    have hk : (xt G L209).2.1 a = 0 := by rw [eL209]; exact xt_k _ hc hk
    have hc : a < (xt G L209).1 := by rw [eL209]; exact xt_l _ hc
    have hk2 : (xt G L209).2.1 b2 = 9 := by rw [eL209]; exact xt_k _ hc2 hk2
    have hc2 : b2 < (xt G L209).1 := by rw [eL209]; exact xt_l _ hc2
    have hk3 : (xt G L209).2.1 b3 = 3 := by rw [eL209]; exact xt_k _ hc3 hk3
    have hc3 : b3 < (xt G L209).1 := by rw [eL209]; exact xt_l _ hc3
    have hk4 : (xt G L209).2.1 b4 = 13 := by rw [eL209]; exact xt_k _ hc4 hk4
    have hc4 : b4 < (xt G L209).1 := by rw [eL209]; exact xt_l _ hc4
    have hk6 : (xt G L209).2.1 b6 = 10 := by rw [eL209]; exact xt_k _ hc6 hk6
    have hc6 : b6 < (xt G L209).1 := by rw [eL209]; exact xt_l _ hc6
    have hk14 : (xt G L209).2.1 b14 = 10 := by rw [eL209]; exact xt_k _ hc14 hk14
    have hc14 : b14 < (xt G L209).1 := by rw [eL209]; exact xt_l _ hc14
    have hk21 : (xt G L209).2.1 b21 = 10 := by rw [eL209]; exact xt_k _ hc21 hk21
    have hc21 : b21 < (xt G L209).1 := by rw [eL209]; exact xt_l _ hc21
    have hk30 : (xt G L209).2.1 b30 = 10 := by rw [eL209]; exact xt_k _ hc30 hk30
    have hc30 : b30 < (xt G L209).1 := by rw [eL209]; exact xt_l _ hc30
    have hk37 : (xt G L209).2.1 b37 = 9 := by rw [eL209]; exact xt_k _ hc37 hk37
    have hc37 : b37 < (xt G L209).1 := by rw [eL209]; exact xt_l _ hc37
    have hk38 : (xt G L209).2.1 b38 = 3 := by rw [eL209]; exact xt_k _ hc38 hk38
    have hc38 : b38 < (xt G L209).1 := by rw [eL209]; exact xt_l _ hc38
    have hk205 : (xt G L209).2.1 b205 = 10 := by rw [eL209]; exact xt_k _ hc205 hk205
    have hc205 : b205 < (xt G L209).1 := by rw [eL209]; exact xt_l _ hc205
    have hag := agr_t (xt_ge _ _) hag hn211
    obtain rfl := Option.some.inj hF
    have e1 : L42 = L209 := by rw [hT]; exact List.append_nil _
    have e2 : y40.2 = y206.2 := h2
    rw [e1] at J40
    try rw [e2] at J40
    exact J40 _ hag _ _ _ hP hD hS (lv_sub hl [0, 1] rfl)
