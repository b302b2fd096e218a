theorem ggX9_direct_X9_leastReference : GoodIn wsX9_direct wsX9_leastReference := goodIn_r _ [54, 55, 56, 57, 9, 58, 15, 59, 60, 61, 62, 63, 64, 65, 50, 87, 88, 89, 90, 91, 92, 93, 94, 95, 96, 97, 98, 99, 100, 101, 102, 103, 104, 105, 106, 111, 112, 113, 114, 115, 116, 117, 118, 119, 120, 121, 122, 123, 124, 125, 126, 127, 128] (by decide +kernel) (by decide +kernel)
set_option maxRecDepth 20000 in
theorem gX9_direct_X9_leastReference : GoodIn wsX9_direct (wsV RX9 203 RX9 yX9_leastReference wsX9_leastReference) := goodIn_app (goodIn_of _ (by decide +kernel)) ggX9_direct_X9_leastReference
set_option maxRecDepth 20000 in
theorem ggX9_direct_X9_setQuarter : GoodIn wsX9_direct wsX9_setQuarter := goodIn_r _ [49, 1, 15, 50, 11, 35, 12, 87, 88, 89, 90, 91, 92, 93, 94, 95, 96, 97, 98, 99, 100, 101, 102, 103, 104, 105, 106, 111, 112, 113, 114, 115, 116, 117, 118, 119, 120, 121, 122, 123, 124, 125, 126, 127, 128] (by decide +kernel) (by decide +kernel)
set_option maxRecDepth 20000 in
theorem gX9_direct_X9_setQuarter : GoodIn wsX9_direct (wsV RX9 210 RX9 yX9_setQuarter wsX9_setQuarter) := goodIn_app (goodIn_of _ (by decide +kernel)) ggX9_direct_X9_setQuarter
theorem ggX9_direct_X9_isStill : GoodIn wsX9_direct wsX9_isStill := goodIn_r _ [86, 14, 12, 50, 16, 17, 18, 19, 20, 21, 22, 23, 24, 25, 26, 27, 28, 29, 30, 111, 112, 113, 114, 115, 116, 117, 118, 119, 120, 121, 122, 123, 124, 125, 126, 127, 128] (by decide +kernel) (by decide +kernel)
set_option maxRecDepth 20000 in
theorem gX9_direct_X9_isStill : GoodIn wsX9_direct (va_wsS RX9 206 yX9_isStill wsX9_isStill) := goodIn_app (goodIn_of _ (by decide +kernel)) ggX9_direct_X9_isStill
set_option maxRecDepth 20000 in
theorem ggX9_direct_X9_guess : GoodIn wsX9_direct wsX9_guess := goodIn_r _ [69, 70, 71, 9, 72, 73, 74, 75, 55, 56, 57, 58, 15, 59, 60, 61, 62, 63, 64, 65, 50, 76, 77, 78, 79, 12, 4, 5, 80, 81, 82, 83, 87, 88, 89, 90, 91, 92, 93, 94, 95, 96, 97, 98, 99, 100, 101, 102, 103, 104, 105, 106, 111, 112, 113, 114, 115, 116, 117, 118, 119, 120, 121, 122, 123, 124, 125, 126, 127, 128] (by decide +kernel) (by decide +kernel)
set_option maxRecDepth 20000 in
theorem gX9_direct_X9_guess : GoodIn wsX9_direct (wsV RX9 182 RX9 yX9_guess wsX9_guess) := goodIn_app (goodIn_of _ (by decide +kernel)) ggX9_direct_X9_guess
set_option maxRecDepth 20000 in
theorem ggX9_direct_X9_directByTime : GoodIn wsX9_direct wsX9_directByTime := goodIn_r _ [10, 11, 1, 12, 13, 14, 15, 16, 17, 18, 19, 20, 21, 22, 23, 24, 25, 26, 27, 28, 29, 30, 31, 32, 33, 9, 34, 35, 36, 37, 38, 39, 40, 41, 42, 43, 44, 45, 46, 47, 48, 49, 50, 111, 112, 113, 114, 115, 116, 117, 118, 119, 120, 121, 122, 123, 124, 125, 126, 127, 128, 87, 88, 89, 90, 91, 92, 93, 94, 95, 96, 97, 98, 99, 100, 101, 102, 103, 104, 105, 106] (by decide +kernel) (by decide +kernel)
set_option maxRecDepth 20000 in
theorem gX9_direct_X9_directByTime : GoodIn wsX9_direct (wsV RX9 199 RX9 yX9_directByTime wsX9_directByTime) := goodIn_app (goodIn_of _ (by decide +kernel)) ggX9_direct_X9_directByTime
set_option maxRecDepth 20000 in
theorem dX9_direct_0 : decode cX9_direct 0 = .ok (.aload_n 0, 1) := by decide +kernel
theorem dX9_direct_1 : decode cX9_direct 1 = .ok (.getfield 11, 3) := by decide +kernel
theorem dX9_direct_4 : decode cX9_direct 4 = .ok (.bipush 9, 2) := by decide +kernel
theorem dX9_direct_6 : decode cX9_direct 6 = .ok (.aaload, 1) := by decide +kernel
theorem dX9_direct_7 : decode cX9_direct 7 = .ok (.astore_n 3, 1) := by decide +kernel
theorem dX9_direct_8 : decode cX9_direct 8 = .ok (.aload_n 3, 1) := by decide +kernel
theorem dX9_direct_9 : decode cX9_direct 9 = .ok (.ifnonnull 5, 3) := by decide +kernel
theorem dX9_direct_12 : decode cX9_direct 12 = .ok (.iconst 0, 1) := by decide +kernel
theorem dX9_direct_13 : decode cX9_direct 13 = .ok (.ireturn, 1) := by decide +kernel
theorem dX9_direct_14 : decode cX9_direct 14 = .ok (.aload_n 0, 1) := by decide +kernel
theorem dX9_direct_15 : decode cX9_direct 15 = .ok (.getfield 92, 3) := by decide +kernel
theorem dX9_direct_18 : decode cX9_direct 18 = .ok (.getfield 96, 3) := by decide +kernel
theorem dX9_direct_21 : decode cX9_direct 21 = .ok (.bipush 8, 2) := by decide +kernel
theorem dX9_direct_23 : decode cX9_direct 23 = .ok (.iaload, 1) := by decide +kernel
theorem dX9_direct_24 : decode cX9_direct 24 = .ok (.ifCond .ne 11, 3) := by decide +kernel
theorem dX9_direct_27 : decode cX9_direct 27 = .ok (.aload_n 0, 1) := by decide +kernel
theorem dX9_direct_28 : decode cX9_direct 28 = .ok (.iload_n 1, 1) := by decide +kernel
theorem dX9_direct_29 : decode cX9_direct 29 = .ok (.iload_n 2, 1) := by decide +kernel
theorem dX9_direct_30 : decode cX9_direct 30 = .ok (.aload_n 3, 1) := by decide +kernel
theorem dX9_direct_31 : decode cX9_direct 31 = .ok (.invokevirtual 199, 3) := by decide +kernel
theorem dX9_direct_34 : decode cX9_direct 34 = .ok (.ireturn, 1) := by decide +kernel
theorem dX9_direct_35 : decode cX9_direct 35 = .ok (.aload_n 0, 1) := by decide +kernel
theorem dX9_direct_36 : decode cX9_direct 36 = .ok (.iload_n 1, 1) := by decide +kernel
theorem dX9_direct_37 : decode cX9_direct 37 = .ok (.iconst 0, 1) := by decide +kernel
theorem dX9_direct_38 : decode cX9_direct 38 = .ok (.invokevirtual 203, 3) := by decide +kernel
theorem dX9_direct_41 : decode cX9_direct 41 = .ok (.istore 4, 2) := by decide +kernel
theorem dX9_direct_43 : decode cX9_direct 43 = .ok (.aload_n 0, 1) := by decide +kernel
theorem dX9_direct_44 : decode cX9_direct 44 = .ok (.iload_n 1, 1) := by decide +kernel
theorem dX9_direct_45 : decode cX9_direct 45 = .ok (.iconst 1, 1) := by decide +kernel
theorem dX9_direct_46 : decode cX9_direct 46 = .ok (.invokevirtual 203, 3) := by decide +kernel
theorem dX9_direct_49 : decode cX9_direct 49 = .ok (.istore 5, 2) := by decide +kernel
theorem dX9_direct_51 : decode cX9_direct 51 = .ok (.iload 4, 2) := by decide +kernel
theorem dX9_direct_53 : decode cX9_direct 53 = .ok (.ifCond .ge 12, 3) := by decide +kernel
theorem dX9_direct_56 : decode cX9_direct 56 = .ok (.iload 5, 2) := by decide +kernel
theorem dX9_direct_58 : decode cX9_direct 58 = .ok (.ifCond .ge 7, 3) := by decide +kernel
theorem dX9_direct_61 : decode cX9_direct 61 = .ok (.iconst 1, 1) := by decide +kernel
theorem dX9_direct_62 : decode cX9_direct 62 = .ok (.goto 4, 3) := by decide +kernel
theorem dX9_direct_65 : decode cX9_direct 65 = .ok (.iconst 0, 1) := by decide +kernel
theorem dX9_direct_66 : decode cX9_direct 66 = .ok (.istore 6, 2) := by decide +kernel
theorem dX9_direct_68 : decode cX9_direct 68 = .ok (.iconst 0, 1) := by decide +kernel
theorem dX9_direct_69 : decode cX9_direct 69 = .ok (.istore 7, 2) := by decide +kernel
theorem dX9_direct_71 : decode cX9_direct 71 = .ok (.iload 7, 2) := by decide +kernel
theorem dX9_direct_73 : decode cX9_direct 73 = .ok (.iconst 2, 1) := by decide +kernel
theorem dX9_direct_74 : decode cX9_direct 74 = .ok (.if_icmp .ge 177, 3) := by decide +kernel
theorem dX9_direct_77 : decode cX9_direct 77 = .ok (.iload 6, 2) := by decide +kernel
theorem dX9_direct_79 : decode cX9_direct 79 = .ok (.ifCond .eq 7, 3) := by decide +kernel
theorem dX9_direct_82 : decode cX9_direct 82 = .ok (.iconst 0, 1) := by decide +kernel
theorem dX9_direct_83 : decode cX9_direct 83 = .ok (.goto 15, 3) := by decide +kernel
theorem dX9_direct_86 : decode cX9_direct 86 = .ok (.iload 7, 2) := by decide +kernel
theorem dX9_direct_88 : decode cX9_direct 88 = .ok (.ifCond .ne 8, 3) := by decide +kernel
theorem dX9_direct_91 : decode cX9_direct 91 = .ok (.iload 4, 2) := by decide +kernel
theorem dX9_direct_93 : decode cX9_direct 93 = .ok (.goto 5, 3) := by decide +kernel
theorem dX9_direct_96 : decode cX9_direct 96 = .ok (.iload 5, 2) := by decide +kernel
theorem dX9_direct_98 : decode cX9_direct 98 = .ok (.istore 8, 2) := by decide +kernel
theorem dX9_direct_100 : decode cX9_direct 100 = .ok (.aload_n 0, 1) := by decide +kernel
theorem dX9_direct_101 : decode cX9_direct 101 = .ok (.iconst 0, 1) := by decide +kernel
theorem dX9_direct_102 : decode cX9_direct 102 = .ok (.putfield 173, 3) := by decide +kernel
theorem dX9_direct_105 : decode cX9_direct 105 = .ok (.aload_n 0, 1) := by decide +kernel
theorem dX9_direct_106 : decode cX9_direct 106 = .ok (.iconst 0, 1) := by decide +kernel
theorem dX9_direct_107 : decode cX9_direct 107 = .ok (.putfield 176, 3) := by decide +kernel
theorem dX9_direct_110 : decode cX9_direct 110 = .ok (.iload 8, 2) := by decide +kernel
theorem dX9_direct_112 : decode cX9_direct 112 = .ok (.ifCond .lt 21, 3) := by decide +kernel
theorem dX9_direct_115 : decode cX9_direct 115 = .ok (.aload_n 0, 1) := by decide +kernel
theorem dX9_direct_116 : decode cX9_direct 116 = .ok (.getfield 11, 3) := by decide +kernel
theorem dX9_direct_119 : decode cX9_direct 119 = .ok (.bipush 9, 2) := by decide +kernel
theorem dX9_direct_121 : decode cX9_direct 121 = .ok (.iload 7, 2) := by decide +kernel
theorem dX9_direct_123 : decode cX9_direct 123 = .ok (.imul, 1) := by decide +kernel
theorem dX9_direct_124 : decode cX9_direct 124 = .ok (.iload 8, 2) := by decide +kernel
theorem dX9_direct_126 : decode cX9_direct 126 = .ok (.iadd, 1) := by decide +kernel
theorem dX9_direct_127 : decode cX9_direct 127 = .ok (.aaload, 1) := by decide +kernel
theorem dX9_direct_128 : decode cX9_direct 128 = .ok (.ifnonnull 5, 3) := by decide +kernel
theorem dX9_direct_131 : decode cX9_direct 131 = .ok (.iconst 0, 1) := by decide +kernel
theorem dX9_direct_132 : decode cX9_direct 132 = .ok (.ireturn, 1) := by decide +kernel
theorem dX9_direct_133 : decode cX9_direct 133 = .ok (.iload 8, 2) := by decide +kernel
theorem dX9_direct_135 : decode cX9_direct 135 = .ok (.ifCond .lt 21, 3) := by decide +kernel
theorem dX9_direct_138 : decode cX9_direct 138 = .ok (.iload 6, 2) := by decide +kernel
theorem dX9_direct_140 : decode cX9_direct 140 = .ok (.ifCond .ne 16, 3) := by decide +kernel
theorem dX9_direct_143 : decode cX9_direct 143 = .ok (.aload_n 0, 1) := by decide +kernel
theorem dX9_direct_144 : decode cX9_direct 144 = .ok (.iload_n 1, 1) := by decide +kernel
theorem dX9_direct_145 : decode cX9_direct 145 = .ok (.iload 7, 2) := by decide +kernel
theorem dX9_direct_147 : decode cX9_direct 147 = .ok (.iload 8, 2) := by decide +kernel
theorem dX9_direct_149 : decode cX9_direct 149 = .ok (.iconst 0, 1) := by decide +kernel
theorem dX9_direct_150 : decode cX9_direct 150 = .ok (.bipush 16, 2) := by decide +kernel
theorem dX9_direct_152 : decode cX9_direct 152 = .ok (.iconst 0, 1) := by decide +kernel
theorem dX9_direct_153 : decode cX9_direct 153 = .ok (.invokevirtual 182, 3) := by decide +kernel
theorem dX9_direct_156 : decode cX9_direct 156 = .ok (.iconst 0, 1) := by decide +kernel
theorem dX9_direct_157 : decode cX9_direct 157 = .ok (.istore 9, 2) := by decide +kernel
theorem dX9_direct_159 : decode cX9_direct 159 = .ok (.iload 9, 2) := by decide +kernel
theorem dX9_direct_161 : decode cX9_direct 161 = .ok (.iconst 4, 1) := by decide +kernel
theorem dX9_direct_162 : decode cX9_direct 162 = .ok (.if_icmp .ge 83, 3) := by decide +kernel
theorem dX9_direct_165 : decode cX9_direct 165 = .ok (.iload 8, 2) := by decide +kernel
theorem dX9_direct_167 : decode cX9_direct 167 = .ok (.ifCond .ne 22, 3) := by decide +kernel
theorem dX9_direct_170 : decode cX9_direct 170 = .ok (.iload 6, 2) := by decide +kernel
theorem dX9_direct_172 : decode cX9_direct 172 = .ok (.ifCond .ne 17, 3) := by decide +kernel
theorem dX9_direct_175 : decode cX9_direct 175 = .ok (.aload_n 3, 1) := by decide +kernel
theorem dX9_direct_176 : decode cX9_direct 176 = .ok (.iload_n 1, 1) := by decide +kernel
theorem dX9_direct_177 : decode cX9_direct 177 = .ok (.iload 9, 2) := by decide +kernel
theorem dX9_direct_179 : decode cX9_direct 179 = .ok (.invokestatic 206, 3) := by decide +kernel
theorem dX9_direct_182 : decode cX9_direct 182 = .ok (.ifCond .eq 7, 3) := by decide +kernel
theorem dX9_direct_185 : decode cX9_direct 185 = .ok (.iconst 1, 1) := by decide +kernel
theorem dX9_direct_186 : decode cX9_direct 186 = .ok (.goto 4, 3) := by decide +kernel
theorem dX9_direct_189 : decode cX9_direct 189 = .ok (.iconst 0, 1) := by decide +kernel
theorem dX9_direct_190 : decode cX9_direct 190 = .ok (.istore 10, 2) := by decide +kernel
theorem dX9_direct_192 : decode cX9_direct 192 = .ok (.iload_n 2, 1) := by decide +kernel
theorem dX9_direct_193 : decode cX9_direct 193 = .ok (.iload 9, 2) := by decide +kernel
theorem dX9_direct_195 : decode cX9_direct 195 = .ok (.ishr, 1) := by decide +kernel
theorem dX9_direct_196 : decode cX9_direct 196 = .ok (.iconst 1, 1) := by decide +kernel
theorem dX9_direct_197 : decode cX9_direct 197 = .ok (.iand, 1) := by decide +kernel
theorem dX9_direct_198 : decode cX9_direct 198 = .ok (.iconst 1, 1) := by decide +kernel
theorem dX9_direct_199 : decode cX9_direct 199 = .ok (.if_icmp .ne 40, 3) := by decide +kernel
theorem dX9_direct_202 : decode cX9_direct 202 = .ok (.aload_n 0, 1) := by decide +kernel
theorem dX9_direct_203 : decode cX9_direct 203 = .ok (.iload_n 1, 1) := by decide +kernel
theorem dX9_direct_204 : decode cX9_direct 204 = .ok (.iload 7, 2) := by decide +kernel
theorem dX9_direct_206 : decode cX9_direct 206 = .ok (.iload 9, 2) := by decide +kernel
theorem dX9_direct_208 : decode cX9_direct 208 = .ok (.iload 8, 2) := by decide +kernel
theorem dX9_direct_210 : decode cX9_direct 210 = .ok (.iload 10, 2) := by decide +kernel
theorem dX9_direct_212 : decode cX9_direct 212 = .ok (.ifCond .eq 7, 3) := by decide +kernel
theorem dX9_direct_215 : decode cX9_direct 215 = .ok (.iconst 0, 1) := by decide +kernel
theorem dX9_direct_216 : decode cX9_direct 216 = .ok (.goto 7, 3) := by decide +kernel
theorem dX9_direct_219 : decode cX9_direct 219 = .ok (.aload_n 0, 1) := by decide +kernel
theorem dX9_direct_220 : decode cX9_direct 220 = .ok (.getfield 173, 3) := by decide +kernel
theorem dX9_direct_223 : decode cX9_direct 223 = .ok (.iload 10, 2) := by decide +kernel
theorem dX9_direct_225 : decode cX9_direct 225 = .ok (.ifCond .eq 7, 3) := by decide +kernel
theorem dX9_direct_228 : decode cX9_direct 228 = .ok (.iconst 0, 1) := by decide +kernel
theorem dX9_direct_229 : decode cX9_direct 229 = .ok (.goto 7, 3) := by decide +kernel
theorem dX9_direct_232 : decode cX9_direct 232 = .ok (.aload_n 0, 1) := by decide +kernel
theorem dX9_direct_233 : decode cX9_direct 233 = .ok (.getfield 176, 3) := by decide +kernel
theorem dX9_direct_236 : decode cX9_direct 236 = .ok (.invokevirtual 210, 3) := by decide +kernel
theorem dX9_direct_239 : decode cX9_direct 239 = .ok (.iinc 9 1, 3) := by decide +kernel
theorem dX9_direct_242 : decode cX9_direct 242 = .ok (.goto (-83), 3) := by decide +kernel
theorem dX9_direct_245 : decode cX9_direct 245 = .ok (.iinc 7 1, 3) := by decide +kernel
theorem dX9_direct_248 : decode cX9_direct 248 = .ok (.goto (-177), 3) := by decide +kernel
theorem dX9_direct_251 : decode cX9_direct 251 = .ok (.iconst 1, 1) := by decide +kernel
theorem dX9_direct_252 : decode cX9_direct 252 = .ok (.ireturn, 1) := by decide +kernel
def FX9_direct (G : GG) (M : DD) (a : Nat) (p0 : Int32) (p1 : Int32) : Option (DD × Int32) :=
  dr G 14 ((M.2 a 3)) fun b2 =>
  chk (¬ (((9 : Int32)) < 0 ∨ G.2.2 b2 ≤ ((9 : Int32)).toNatClampNeg)) <|
  if ((M.2 b2 ((9 : Int32)).toNatClampNeg)) = none then (chk (((0 : Int32)) = 0 ∨ ((0 : Int32)) = 1) <|
  some (M, (0 : Int32))) else
  (dr G 3 ((M.2 a 1)) fun b4 =>
  dr G 13 ((M.2 b4 0)) fun b5 =>
  chk (¬ (((8 : Int32)) < 0 ∨ G.2.2 b5 ≤ ((8 : Int32)).toNatClampNeg)) <|
  ltt (M.1 b5 ((8 : Int32)).toNatClampNeg) fun x6 =>
  if x6 = ((0 : Int32)) then (bnd (FX9_directByTime G M a p0 p1 ((M.2 b2 ((9 : Int32)).toNatClampNeg))) fun y90 =>
  chk (y90.2 = 0 ∨ y90.2 = 1) <|
  some (y90.1, y90.2)) else
  (bnd (FX9_leastReference G M a p0 ((0 : Int32))) fun y8 =>
  bnd (FX9_leastReference G y8.1 a p0 ((1 : Int32))) fun y9 =>
  bnd (if ((0 : Int32)) ≤ y8.2 then (some ((0 : Int32))) else
  (bnd (if ((0 : Int32)) ≤ y9.2 then (some ((0 : Int32))) else
  (some ((1 : Int32)))) fun (y88 : Int32) =>
  some (y88))) fun (y10 : Int32) =>
  bnd (itr (fun (s12 : Int32 × DD) => ((if ((2 : Int32)) ≤ s12.1 then (some (.inr (.inl (s12.1, s12.2)))) else
  (bnd (if y10 = ((0 : Int32)) then (bnd (if s12.1 = ((0 : Int32)) then (some (y8.2)) else
  (some (y9.2))) fun (y85 : Int32) =>
  some (y85)) else
  (some ((0 : Int32)))) fun (y16 : Int32) =>
  ltt (uI s12.2 a 18 ((0 : Int32))) fun M17 =>
  ltt (uI M17 a 19 ((0 : Int32))) fun M18 =>
  if y16 < ((0 : Int32)) then (bnd (if y16 < ((0 : Int32)) then (some (M18)) else
  (bnd (if y10 = ((0 : Int32)) then (bnd (FX9_guess G M18 a p0 s12.1 y16 ((0 : Int32)) ((16 : Int32)) ((0 : Int32))) fun y49 =>
  some (y49)) else
  (some (M18))) fun (y47 : DD) =>
  some (y47))) fun (y20 : DD) =>
  bnd (itr (fun (s22 : Int32 × DD) => ((if ((4 : Int32)) ≤ s22.1 then (some (.inr (s22.1, s22.2))) else
  (bnd (if y16 = ((0 : Int32)) then (bnd (if y10 = ((0 : Int32)) then (bnd (FX9_isStill G s22.2 ((M.2 b2 ((9 : Int32)).toNatClampNeg)) p0 s22.1) fun y43 =>
  bnd (if y43.2 = ((0 : Int32)) then (some ((0 : Int32))) else
  (some ((1 : Int32)))) fun (y44 : Int32) =>
  some (y44, y43.1)) else
  (some ((0 : Int32), s22.2))) fun (y41 : Int32 × DD) =>
  some (y41.1, y41.2)) else
  (some ((0 : Int32), s22.2))) fun (y27 : Int32 × DD) =>
  ltt ((p1 >>> (s22.1 &&& 31))) fun x28 =>
  ltt ((x28 &&& ((1 : Int32)))) fun x29 =>
  bnd (if x29 = ((1 : Int32)) then (bnd (if y27.1 = ((0 : Int32)) then (ltt (y27.2.1 a 18) fun x39 =>
  some (x39)) else
  (some ((0 : Int32)))) fun (y33 : Int32) =>
  bnd (if y27.1 = ((0 : Int32)) then (ltt (y27.2.1 a 19) fun x37 =>
  some (x37)) else
  (some ((0 : Int32)))) fun (y34 : Int32) =>
  bnd (FX9_setQuarter G y27.2 a p0 s12.1 s22.1 y16 y33 y34) fun y35 =>
  some (y35)) else
  (some (y27.2))) fun (y30 : DD) =>
  ltt (s22.1 + (1 : Int32)) fun x31 =>
  some (.inl (x31, y30)))) : Option ((Int32 × DD) ⊕ (Int32 × DD)))) 1000000 ((0 : Int32), y20)) fun (y21 : Int32 × DD) =>
  ltt (s12.1 + (1 : Int32)) fun x24 =>
  some (.inl (x24, y21.2))) else
  (ltt ((((9 : Int32)) * s12.1)) fun x50 =>
  ltt ((x50 + y16)) fun x51 =>
  dr G 14 ((M18.2 a 3)) fun b52 =>
  chk (¬ (x51 < 0 ∨ G.2.2 b52 ≤ x51.toNatClampNeg)) <|
  if ((M18.2 b52 x51.toNatClampNeg)) = none then (chk (((0 : Int32)) = 0 ∨ ((0 : Int32)) = 1) <|
  some (.inr (.inr (M18, (0 : Int32))))) else
  (bnd (if y16 < ((0 : Int32)) then (some (M18)) else
  (bnd (if y10 = ((0 : Int32)) then (bnd (FX9_guess G M18 a p0 s12.1 y16 ((0 : Int32)) ((16 : Int32)) ((0 : Int32))) fun y83 =>
  some (y83)) else
  (some (M18))) fun (y81 : DD) =>
  some (y81))) fun (y54 : DD) =>
  bnd (itr (fun (s56 : Int32 × DD) => ((if ((4 : Int32)) ≤ s56.1 then (some (.inr (s56.1, s56.2))) else
  (bnd (if y16 = ((0 : Int32)) then (bnd (if y10 = ((0 : Int32)) then (bnd (FX9_isStill G s56.2 ((M.2 b2 ((9 : Int32)).toNatClampNeg)) p0 s56.1) fun y77 =>
  bnd (if y77.2 = ((0 : Int32)) then (some ((0 : Int32))) else
  (some ((1 : Int32)))) fun (y78 : Int32) =>
  some (y78, y77.1)) else
  (some ((0 : Int32), s56.2))) fun (y75 : Int32 × DD) =>
  some (y75.1, y75.2)) else
  (some ((0 : Int32), s56.2))) fun (y61 : Int32 × DD) =>
  ltt ((p1 >>> (s56.1 &&& 31))) fun x62 =>
  ltt ((x62 &&& ((1 : Int32)))) fun x63 =>
  bnd (if x63 = ((1 : Int32)) then (bnd (if y61.1 = ((0 : Int32)) then (ltt (y61.2.1 a 18) fun x73 =>
  some (x73)) else
  (some ((0 : Int32)))) fun (y67 : Int32) =>
  bnd (if y61.1 = ((0 : Int32)) then (ltt (y61.2.1 a 19) fun x71 =>
  some (x71)) else
  (some ((0 : Int32)))) fun (y68 : Int32) =>
  bnd (FX9_setQuarter G y61.2 a p0 s12.1 s56.1 y16 y67 y68) fun y69 =>
  some (y69)) else
  (some (y61.2))) fun (y64 : DD) =>
  ltt (s56.1 + (1 : Int32)) fun x65 =>
  some (.inl (x65, y64)))) : Option ((Int32 × DD) ⊕ (Int32 × DD)))) 1000000 ((0 : Int32), y54)) fun (y55 : Int32 × DD) =>
  ltt (s12.1 + (1 : Int32)) fun x58 =>
  some (.inl (x58, y55.2)))))) : Option ((Int32 × DD) ⊕ ((Int32 × DD) ⊕ (DD × Int32))))) 1000000 ((0 : Int32), y9.1)) fun (y11 : (Int32 × DD) ⊕ (DD × Int32)) =>
  sel y11 (fun (z11k : Int32 × DD) =>
  chk (((1 : Int32)) = 0 ∨ ((1 : Int32)) = 1) <|
  some (z11k.2, (1 : Int32))) fun r9 => some r9))
set_option maxHeartbeats 4000000 in
set_option maxRecDepth 100000 in
theorem kX9_direct (l : Launch) (D : va_G) (ct : CT) (ad : Nat → Nat) (Z : Nat → Nat) (G : GG) (M : DD) (sz : Nat) (a : Nat) (p0 : Int32) (p1 : Int32) (y : DD × Int32) (hc : a < G.1) (hk : G.2.1 a = 9) (hF : FX9_direct G M a p0 p1 = some y) : Met l yX9_direct wsX9_direct ({ frames := 3, cells := 0, slots := 0, locals := 79 }) (va_Pc [.ref (ad a), .int p0, .int p1] (kB D ct ad Z G M sz)) (va_Qi (fun (q : Int32) (_ : Unit) => q = y.2) (fun _ t => kE D ct ad G (wA ad G sz) y.1 t) (wA ad G sz)) 0 0 (wA ad G sz) := by
  refine Met.ofW (cc := cX9_direct) (maxL := 11) (ret := (some .boolean)) (by decide) rfl ?_
  intro p e s m args below meth c s₁ B hml hv
  obtain ⟨rfl, hsz, hP, hK, hD0, hZ, hN⟩ := hv
  have hx := B.exec
  have hb := B.bytes
  have hr := B.returns
  have hts := atoms_spec (ws := wsX9_direct) B.pre
  have hown : s.vm.findClass RX9 = some m.cls := findClass_of_methodNamed B.named
  have hlocks := B.notSynchronized
  subst hsz
  have hD := wD_self (sz := s.heap.size) hD0
  have hA9 : ∀ q, s.heap.size ≤ q → wA ad G s.heap.size q := fun q h => Or.inr h
  generalize hAe : wA ad G s.heap.size = A at hD hA9 hZ ⊢
  have hS : va_S A s.heap s.heap [] := va_S.rf
  have hl := lv_entry ([.ref (ad a), .int p0, .int p1]) (n := 11) (Nat.le_of_ble_eq_true rfl)
  rw [lg_entry_eq]
  generalize (lg_sl ([.ref (ad a), .int p0, .int p1]) ++ List.replicate (11 - (lg_sl ([.ref (ad a), .int p0, .int p1])).length) Slot.unset).toArray = ls at hl ⊢
  have hl : lv_has ls 11 [(0, .ref (ad a)), (1, .int p0), (2, .int p1)] := hl
  unfold FX9_direct at hF
  refine lv_aload_n hx hb dX9_direct_0 rfl (lv_at hl 0 rfl) ?_
  refine va_get (D := D) (ci := 9) (v := va_re ad (M.2 a 3)) (C := RX9) (T := TX9) (N := 20) hx hb hts (by decide +kernel) hown hK hP a (wld_o ct ad G M hc hk (by decide)) rfl 3 (by decide) (hts (.fieldLink RX9 11 "VideoSuite$Work" "lists" "[LVideoSuite$Picture;") (by decide +kernel)) (fun _ h9 => h9) rfl dX9_direct_1 ?_
  refine lv_bipush (v := (9 : Int32)) hx hb dX9_direct_4 (by decide) ?_
  obtain ⟨b2, ho2, hc2, hk2, hF⟩ := dr_some hF
  refine W_st (st' := [.int (9 : Int32), .ref (ad b2)]) (by rw [va_some ho2]) ?_
  obtain ⟨hvc, hF⟩ := chk_some hF
  refine ld_q hx hb hK hP hc2 hk2 hvc dX9_direct_6 ?_
  refine lv_astoreq_n (lv' := [(3, va_re ad (M.2 b2 ((9 : Int32)).toNatClampNeg)), (0, .ref (ad a)), (1, .int p0), (2, .int p1)]) hx hb dX9_direct_7 rfl hl (by decide) rfl (fun ls hl => ?_)
  refine lv_aloadq_n hx hb dX9_direct_8 rfl (lv_at hl 0 rfl) ?_
  refine lv_ifnonnullq (tgt := 14) hx hb dX9_direct_9 (by decide) (fun c3 => ?_) (fun c3 => ?_)
  · rw [if_neg c3] at hF
    refine lv_aload_n hx hb dX9_direct_14 rfl (lv_at hl 1 rfl) ?_
    refine va_get (D := D) (ci := 9) (v := va_re ad (M.2 a 1)) (C := RX9) (T := TX9) (N := 20) hx hb hts (by decide +kernel) hown hK hP a (wld_o ct ad G M hc hk (by decide)) rfl 1 (by decide) (hts (.fieldLink RX9 92 "VideoSuite$Work" "head" "LVideoSuite$Header;") (by decide +kernel)) (fun _ h9 => h9) rfl dX9_direct_15 ?_
    obtain ⟨b4, ho4, hc4, hk4, hF⟩ := dr_some hF
    refine W_st (st' := [.ref (ad b4)]) (by rw [va_some ho4]) ?_
    refine va_get (D := D) (ci := 3) (v := va_re ad (M.2 b4 0)) (C := RX3) (T := TX3) (N := 4) hx hb hts (by decide +kernel) hown hK hP b4 (wld_o ct ad G M hc4 hk4 (by decide)) rfl 0 (by decide) (hts (.fieldLink RX9 96 "VideoSuite$Header" "v" "[I") (by decide +kernel)) (fun _ h9 => h9) rfl dX9_direct_18 ?_
    refine lv_bipush (v := (8 : Int32)) hx hb dX9_direct_21 (by decide) ?_
    obtain ⟨b5, ho5, hc5, hk5, hF⟩ := dr_some hF
    refine W_st (st' := [.int (8 : Int32), .ref (ad b5)]) (by rw [va_some ho5]) ?_
    obtain ⟨hvc, hF⟩ := chk_some hF
    refine va_iald hx hb hK hP b5 1 (wld_i ct ad G M hc5 hk5) rfl hvc dX9_direct_23 ?_
    obtain ⟨x6, ex6, hF⟩ := ltt_some hF
    refine lv_topi (fun zx6 ezx6 => ?_)
    obtain rfl : x6 = zx6 := ex6.trans ezx6.symm
    refine lv_if_ne (tgt := 35) hx hb dX9_direct_24 (by decide) (fun c7 => ?_) (fun c7 => ?_)
    · rw [if_neg c7] at hF
      refine lv_aload_n hx hb dX9_direct_35 rfl (lv_at hl 1 rfl) ?_
      refine lv_iload_n hx hb dX9_direct_36 rfl (lv_at hl 2 rfl) ?_
      refine lv_iconst (v := (0 : Int32)) hx hb dX9_direct_37 (by decide) ?_
      obtain ⟨y8, hy8, hF⟩ := bnd_some hF
      have hf9 := wA_in hD hA9 hS
      refine va_calli (va_runV (As := [.int p0, .int (0 : Int32)]) (rest := []) ⟨hx, hb, hml, hown, hts⟩ (kX9_leastReference l D ct ad Z G M s.heap.size a p0 ((0 : Int32)) y8 hc hk hy8) (cwV 2 hts gX9_direct_X9_leastReference rfl rfl rfl (by decide +kernel) ⟨Nat.le_of_ble_eq_true rfl, Nat.le_of_ble_eq_true rfl⟩) ⟨fun a U g mk q => by obtain ⟨q0, q1, qP, qK, qD, qZ, qN⟩ := q; exact ⟨q0, q1, qP, va_K.moved (u := U) (U := U.calling g mk a) (Vm.Alike.refl U.vm) qK, qD, sF.moved (u := U) (U := U.calling g mk a) (Vm.Alike.refl U.vm) qZ, nF.same rfl qN⟩, va_recv hK hP (ci := 9) (q0 := a) rfl (wld_o ct ad G M hc hk (by decide)), fun U hU hW => ⟨rfl, by rw [hU], by rw [hU]; exact hP, va_K.moved hW.alike hK, hD.weaken (fun _ _ _ _ => trivial), by rw [hU]; exact ((hZ.kept hS.2.1).narrow hf9).moved hW.alike, hN.warm hW⟩⟩ rfl rfl hl.1 rfl (lv_room (Nat.le_of_ble_eq_true rfl)) dX9_direct_38 ⟨(Nat.zero_le _), (Nat.zero_le _)⟩) hS (fun q _ h => hf9 q h) hf9 (fun r u t H locs ht hvm hw hB hz1 hk1 hS => ?_)
      obtain ⟨hP, hK9, hD9⟩ := hB
      rw [ht] at hP
      try dsimp only at hw
      subst hw
      have hD := hD9.weaken (fun _ q _ h => hf9 q.1 h)
      refine lv_istore (lv' := [(4, .int y8.2), (3, va_re ad (M.2 b2 ((9 : Int32)).toNatClampNeg)), (0, .ref (ad a)), (1, .int p0), (2, .int p1)]) hx hb dX9_direct_41 hl (by decide) (by generalize ((M.2 b2 ((9 : Int32)).toNatClampNeg)) = o9; cases o9 <;> rfl) (fun ls hl => ?_)
      refine lv_aload_n hx hb dX9_direct_43 rfl (lv_at hl 2 rfl) ?_
      refine lv_iload_n hx hb dX9_direct_44 rfl (lv_at hl 3 rfl) ?_
      refine lv_iconst (v := (1 : Int32)) hx hb dX9_direct_45 (by decide) ?_
      obtain ⟨y9, hy9, hF⟩ := bnd_some hF
      have hf9 := wA_in hD hA9 hS
      refine va_calli (va_runV (As := [.int p0, .int (1 : Int32)]) (rest := []) ⟨hx, hb, hml, hown, hts⟩ (kX9_leastReference l D ct ad Z G y8.1 H.size a p0 ((1 : Int32)) y9 hc hk hy9) (cwV 2 hts gX9_direct_X9_leastReference rfl rfl rfl (by decide +kernel) ⟨Nat.le_of_ble_eq_true rfl, Nat.le_of_ble_eq_true rfl⟩) ⟨fun a U g mk q => by obtain ⟨q0, q1, qP, qK, qD, qZ, qN⟩ := q; exact ⟨q0, q1, qP, va_K.moved (u := U) (U := U.calling g mk a) (Vm.Alike.refl U.vm) qK, qD, sF.moved (u := U) (U := U.calling g mk a) (Vm.Alike.refl U.vm) qZ, nF.same rfl qN⟩, va_recv hK hP (ci := 9) (q0 := a) rfl (wld_o ct ad G y8.1 hc hk (by decide)), fun U hU hW => ⟨rfl, by rw [hU], by rw [hU]; exact hP, va_K.moved hW.alike hK, hD.weaken (fun _ _ _ _ => trivial), by rw [hU]; exact ((hZ.kept hS.2.1).narrow hf9).moved hW.alike, hN.warm hW⟩⟩ rfl rfl hl.1 rfl (lv_room (Nat.le_of_ble_eq_true rfl)) dX9_direct_46 ⟨(Nat.zero_le _), (Nat.zero_le _)⟩) hS (fun q _ h => hf9 q h) hf9 (fun r u t H locs ht hvm hw hB hz1 hk1 hS => ?_)
      obtain ⟨hP, hK9, hD9⟩ := hB
      rw [ht] at hP
      try dsimp only at hw
      subst hw
      have hD := hD9.weaken (fun _ q _ h => hf9 q.1 h)
      refine lv_istore (lv' := [(5, .int y9.2), (4, .int y8.2), (3, va_re ad (M.2 b2 ((9 : Int32)).toNatClampNeg)), (0, .ref (ad a)), (1, .int p0), (2, .int p1)]) hx hb dX9_direct_49 hl (by decide) rfl (fun ls hl => ?_)
      refine lv_iload hx hb dX9_direct_51 (lv_at hl 1 rfl) ?_
      obtain ⟨y10, hy10, hF⟩ := bnd_some hF
      have J10 : ∀ (H : Heap) (locs : List Loc) (ls : Array Slot), va_P D classes (wld ct ad G y9.1) H → va_D A (wld ct ad G y9.1) → va_S A s.heap H locs → lv_has ls 11 [(5, .int y9.2), (4, .int y8.2), (3, va_re ad (M.2 b2 ((9 : Int32)).toNatClampNeg)), (0, .ref (ad a)), (1, .int p0), (2, .int p1)] → W p l e (headSpec wsX9_direct ({ frames := 3, cells := 0, slots := 0, locals := 79 })).room s m ([.ref (ad a), .int p0, .int p1] : List Value).toArray below meth c H locs 0 0 (MQ below (va_Qi (fun (q : Int32) (_ : Unit) => q = y.2) (fun _ t => kE D ct ad G A y.1 t) A) ([.ref (ad a), .int p0, .int p1] : List Value).toArray s 0 0 A) (F0 m 66 ls [.int y10]) := by
        intro H locs ls hP hD hS hl
        refine lv_istore (lv' := [(6, .int y10), (5, .int y9.2), (4, .int y8.2), (3, va_re ad (M.2 b2 ((9 : Int32)).toNatClampNeg)), (0, .ref (ad a)), (1, .int p0), (2, .int p1)]) hx hb dX9_direct_66 hl (by decide) rfl (fun ls hl => ?_)
        refine lv_iconst (v := (0 : Int32)) hx hb dX9_direct_68 (by decide) ?_
        refine lv_istore (lv' := [(7, .int (0 : Int32)), (6, .int y10), (5, .int y9.2), (4, .int y8.2), (3, va_re ad (M.2 b2 ((9 : Int32)).toNatClampNeg)), (0, .ref (ad a)), (1, .int p0), (2, .int p1)]) hx hb dX9_direct_69 hl (by decide) rfl (fun ls hl => ?_)
        obtain ⟨y11, hy11, hF⟩ := bnd_some hF
        have K11 : ∀ z11k : Int32 × DD, y11 = .inl z11k → ∀ (H : Heap) (locs : List Loc) (ls : Array Slot), va_P D classes (wld ct ad G z11k.2) H → va_D A (wld ct ad G z11k.2) → va_S A s.heap H locs → lv_has ls 11 [(7, .int z11k.1), (6, .int y10), (5, .int y9.2), (4, .int y8.2), (3, va_re ad (M.2 b2 ((9 : Int32)).toNatClampNeg)), (0, .ref (ad a)), (1, .int p0), (2, .int p1)] → W p l e (headSpec wsX9_direct ({ frames := 3, cells := 0, slots := 0, locals := 79 })).room s m ([.ref (ad a), .int p0, .int p1] : List Value).toArray below meth c H locs 0 0 (MQ below (va_Qi (fun (q : Int32) (_ : Unit) => q = y.2) (fun _ t => kE D ct ad G A y.1 t) A) ([.ref (ad a), .int p0, .int p1] : List Value).toArray s 0 0 A) (F0 m 251 ls []) := by
          intro z11k hz11 H locs ls hP hD hS hl
          have hF := sel_inl (hz11 ▸ hF)
          refine lv_iconst (v := (1 : Int32)) hx hb dX9_direct_251 (by decide) ?_
          obtain ⟨hz9, hF⟩ := chk_some hF
          obtain rfl := Option.some.inj hF
          exact W.zret (v := (1 : Int32)) (ty := .boolean) hx hb hr (nar_z hz9).1 (fun t ht hW => ⟨⟨_, (), rfl, rfl, ⟨by rw [ht]; exact hP, va_K.moved hW.alike hK, hD⟩⟩, hS.F ht⟩) hS.2.2 dX9_direct_252
        have hR11 := hF
        clear hF
        refine itr_rule (fun (s12 : Int32 × DD) => ∀ (H : Heap) (locs : List Loc) (ls : Array Slot), va_P D classes (wld ct ad G s12.2) H → va_D A (wld ct ad G s12.2) → va_S A s.heap H locs → lv_has ls 11 [(7, .int s12.1), (6, .int y10), (5, .int y9.2), (4, .int y8.2), (3, va_re ad (M.2 b2 ((9 : Int32)).toNatClampNeg)), (0, .ref (ad a)), (1, .int p0), (2, .int p1)] → W p l e (headSpec wsX9_direct ({ frames := 3, cells := 0, slots := 0, locals := 79 })).room s m ([.ref (ad a), .int p0, .int p1] : List Value).toArray below meth c H locs 0 0 (MQ below (va_Qi (fun (q : Int32) (_ : Unit) => q = y.2) (fun _ t => kE D ct ad G A y.1 t) A) ([.ref (ad a), .int p0, .int p1] : List Value).toArray s 0 0 A) (F0 m 71 ls [])) ?_ _ _ hy11 _ _ _ hP hD hS (lv_sub hl [0, 1, 2, 3, 4, 5, 6, 7] rfl)
        rintro s12 ⟨z14, hF, hwz14⟩ H locs ls hP hD hS hl
        try dsimp only at hF
        refine lv_iload hx hb dX9_direct_71 (lv_at hl 0 rfl) ?_
        refine lv_iconst (v := (2 : Int32)) hx hb dX9_direct_73 (by decide) ?_
        refine lv_icmp_ge (tgt := 251) hx hb dX9_direct_74 (by decide) (fun c15 => ?_) (fun c15 => ?_)
        · rw [if_pos c15] at hF
          obtain rfl := Option.some.inj hF
          exact K11 _ hwz14.symm _ _ _ hP hD hS (lv_sub hl [0, 1, 2, 3, 4, 5, 6, 7] rfl)
        · rw [if_neg c15] at hF
          refine lv_iload hx hb dX9_direct_77 (lv_at hl 1 rfl) ?_
          obtain ⟨y16, hy16, hF⟩ := bnd_some hF
          have J16 : ∀ (H : Heap) (locs : List Loc) (ls : Array Slot), va_P D classes (wld ct ad G s12.2) H → va_D A (wld ct ad G s12.2) → va_S A s.heap H locs → lv_has ls 11 [(7, .int s12.1), (6, .int y10), (5, .int y9.2), (4, .int y8.2), (3, va_re ad (M.2 b2 ((9 : Int32)).toNatClampNeg)), (0, .ref (ad a)), (1, .int p0), (2, .int p1)] → W p l e (headSpec wsX9_direct ({ frames := 3, cells := 0, slots := 0, locals := 79 })).room s m ([.ref (ad a), .int p0, .int p1] : List Value).toArray below meth c H locs 0 0 (MQ below (va_Qi (fun (q : Int32) (_ : Unit) => q = y.2) (fun _ t => kE D ct ad G A y.1 t) A) ([.ref (ad a), .int p0, .int p1] : List Value).toArray s 0 0 A) (F0 m 98 ls [.int y16]) := by
            intro H locs ls hP hD hS hl
            refine lv_istore (lv' := [(8, .int y16), (7, .int s12.1), (6, .int y10), (5, .int y9.2), (4, .int y8.2), (3, va_re ad (M.2 b2 ((9 : Int32)).toNatClampNeg)), (0, .ref (ad a)), (1, .int p0), (2, .int p1)]) hx hb dX9_direct_98 hl (by decide) rfl (fun ls hl => ?_)
            refine lv_aload_n hx hb dX9_direct_100 rfl (lv_at hl 6 rfl) ?_
            refine lv_iconst (v := (0 : Int32)) hx hb dX9_direct_101 (by decide) ?_
            refine va_put (D := D) (ci := 9) (v := .int (0 : Int32)) (ty := .int) (C := RX9) (T := TX9) (N := 20) hx hb hts (by decide +kernel) tyX9 tyX9_ok nmX9 hown hK hP hD hS a (wld_o ct ad G s12.2 hc hk (by decide)) rfl 18 (by decide) (hts (.fieldLink RX9 173 "VideoSuite$Work" "guessX" "I") (by decide +kernel)) (fun _ h9 => h9) rfl (by decide +kernel) rfl rfl (Nat.le_of_ble_eq_true rfl) dX9_direct_102 (fun H locs hP hD hS => ?_)
            obtain ⟨M17, eM17, hF⟩ := ltt_some hF
            rw [set_oI ct ad G s12.2 hc hk (by decide) (by rfl), ← eM17] at hP hD
            refine lv_aload_n hx hb dX9_direct_105 rfl (lv_at hl 6 rfl) ?_
            refine lv_iconst (v := (0 : Int32)) hx hb dX9_direct_106 (by decide) ?_
            refine va_put (D := D) (ci := 9) (v := .int (0 : Int32)) (ty := .int) (C := RX9) (T := TX9) (N := 20) hx hb hts (by decide +kernel) tyX9 tyX9_ok nmX9 hown hK hP hD hS a (wld_o ct ad G M17 hc hk (by decide)) rfl 19 (by decide) (hts (.fieldLink RX9 176 "VideoSuite$Work" "guessY" "I") (by decide +kernel)) (fun _ h9 => h9) rfl (by decide +kernel) rfl rfl (Nat.le_of_ble_eq_true rfl) dX9_direct_107 (fun H locs hP hD hS => ?_)
            obtain ⟨M18, eM18, hF⟩ := ltt_some hF
            rw [set_oI ct ad G M17 hc hk (by decide) (by rfl), ← eM18] at hP hD
            refine lv_iload hx hb dX9_direct_110 (lv_at hl 0 rfl) ?_
            refine lv_if_lt (tgt := 133) hx hb dX9_direct_112 (by decide) (fun c19 => ?_) (fun c19 => ?_)
            · rw [if_pos c19] at hF
              refine lv_iload hx hb dX9_direct_133 (lv_at hl 0 rfl) ?_
              obtain ⟨y20, hy20, hF⟩ := bnd_some hF
              have J20 : ∀ (H : Heap) (locs : List Loc) (ls : Array Slot), va_P D classes (wld ct ad G y20) H → va_D A (wld ct ad G y20) → va_S A s.heap H locs → lv_has ls 11 [(8, .int y16), (7, .int s12.1), (6, .int y10), (5, .int y9.2), (4, .int y8.2), (3, va_re ad (M.2 b2 ((9 : Int32)).toNatClampNeg)), (0, .ref (ad a)), (1, .int p0), (2, .int p1)] → W p l e (headSpec wsX9_direct ({ frames := 3, cells := 0, slots := 0, locals := 79 })).room s m ([.ref (ad a), .int p0, .int p1] : List Value).toArray below meth c H locs 0 0 (MQ below (va_Qi (fun (q : Int32) (_ : Unit) => q = y.2) (fun _ t => kE D ct ad G A y.1 t) A) ([.ref (ad a), .int p0, .int p1] : List Value).toArray s 0 0 A) (F0 m 156 ls []) := by
                intro H locs ls hP hD hS hl
                refine lv_iconst (v := (0 : Int32)) hx hb dX9_direct_156 (by decide) ?_
                refine lv_istore (lv' := [(9, .int (0 : Int32)), (8, .int y16), (7, .int s12.1), (6, .int y10), (5, .int y9.2), (4, .int y8.2), (3, va_re ad (M.2 b2 ((9 : Int32)).toNatClampNeg)), (0, .ref (ad a)), (1, .int p0), (2, .int p1)]) hx hb dX9_direct_157 hl (by decide) rfl (fun ls hl => ?_)
                obtain ⟨y21, hy21, hF⟩ := bnd_some hF
                have K21 : ∀ (H : Heap) (locs : List Loc) (ls : Array Slot), va_P D classes (wld ct ad G y21.2) H → va_D A (wld ct ad G y21.2) → va_S A s.heap H locs → lv_has ls 11 [(9, .int y21.1), (8, .int y16), (7, .int s12.1), (6, .int y10), (5, .int y9.2), (4, .int y8.2), (3, va_re ad (M.2 b2 ((9 : Int32)).toNatClampNeg)), (0, .ref (ad a)), (1, .int p0), (2, .int p1)] → W p l e (headSpec wsX9_direct ({ frames := 3, cells := 0, slots := 0, locals := 79 })).room s m ([.ref (ad a), .int p0, .int p1] : List Value).toArray below meth c H locs 0 0 (MQ below (va_Qi (fun (q : Int32) (_ : Unit) => q = y.2) (fun _ t => kE D ct ad G A y.1 t) A) ([.ref (ad a), .int p0, .int p1] : List Value).toArray s 0 0 A) (F0 m 245 ls []) := by
                  intro H locs ls hP hD hS hl
                  obtain ⟨x24, ex24, hF⟩ := ltt_some hF
                  refine lv_iinc (v := x24) (lv' := [(7, .int x24), (9, .int y21.1), (8, .int y16), (6, .int y10), (5, .int y9.2), (4, .int y8.2), (3, va_re ad (M.2 b2 ((9 : Int32)).toNatClampNeg)), (0, .ref (ad a)), (1, .int p0), (2, .int p1)]) hx hb dX9_direct_245 hl (k := 2) rfl (by rw [ex24]; rfl) (by decide) rfl (fun ls hl => ?_)
                  refine lv_goto (tgt := 71) hx hb dX9_direct_248 (by decide) ?_
                  obtain rfl := Option.some.inj hF
                  exact hwz14 _ _ _ hP hD hS (lv_sub hl [0, 3, 4, 5, 6, 7, 8, 9] rfl)
                clear hF
                refine itr_rule (fun (s22 : Int32 × DD) => ∀ (H : Heap) (locs : List Loc) (ls : Array Slot), va_P D classes (wld ct ad G s22.2) H → va_D A (wld ct ad G s22.2) → va_S A s.heap H locs → lv_has ls 11 [(9, .int s22.1), (8, .int y16), (7, .int s12.1), (6, .int y10), (5, .int y9.2), (4, .int y8.2), (3, va_re ad (M.2 b2 ((9 : Int32)).toNatClampNeg)), (0, .ref (ad a)), (1, .int p0), (2, .int p1)] → W p l e (headSpec wsX9_direct ({ frames := 3, cells := 0, slots := 0, locals := 79 })).room s m ([.ref (ad a), .int p0, .int p1] : List Value).toArray below meth c H locs 0 0 (MQ below (va_Qi (fun (q : Int32) (_ : Unit) => q = y.2) (fun _ t => kE D ct ad G A y.1 t) A) ([.ref (ad a), .int p0, .int p1] : List Value).toArray s 0 0 A) (F0 m 159 ls [])) ?_ _ _ hy21 _ _ _ hP hD hS (lv_sub hl [0, 1, 2, 3, 4, 5, 6, 7, 8, 9] rfl)
                rintro s22 ⟨z25, hF, hwz25⟩ H locs ls hP hD hS hl
                try dsimp only at hF
                refine lv_iload hx hb dX9_direct_159 (lv_at hl 0 rfl) ?_
                refine lv_iconst (v := (4 : Int32)) hx hb dX9_direct_161 (by decide) ?_
                refine lv_icmp_ge (tgt := 245) hx hb dX9_direct_162 (by decide) (fun c26 => ?_) (fun c26 => ?_)
                · rw [if_pos c26] at hF
                  obtain rfl := Option.some.inj hF
                  subst hwz25
                  exact K21 _ _ _ hP hD hS (lv_sub hl [0, 1, 2, 3, 4, 5, 6, 7, 8, 9] rfl)
                · rw [if_neg c26] at hF
                  refine lv_iload hx hb dX9_direct_165 (lv_at hl 1 rfl) ?_
                  obtain ⟨y27, hy27, hF⟩ := bnd_some hF
                  have J27 : ∀ (H : Heap) (locs : List Loc) (ls : Array Slot), va_P D classes (wld ct ad G y27.2) H → va_D A (wld ct ad G y27.2) → va_S A s.heap H locs → lv_has ls 11 [(9, .int s22.1), (8, .int y16), (7, .int s12.1), (6, .int y10), (5, .int y9.2), (4, .int y8.2), (3, va_re ad (M.2 b2 ((9 : Int32)).toNatClampNeg)), (0, .ref (ad a)), (1, .int p0), (2, .int p1)] → W p l e (headSpec wsX9_direct ({ frames := 3, cells := 0, slots := 0, locals := 79 })).room s m ([.ref (ad a), .int p0, .int p1] : List Value).toArray below meth c H locs 0 0 (MQ below (va_Qi (fun (q : Int32) (_ : Unit) => q = y.2) (fun _ t => kE D ct ad G A y.1 t) A) ([.ref (ad a), .int p0, .int p1] : List Value).toArray s 0 0 A) (F0 m 190 ls [.int y27.1]) := by
                    intro H locs ls hP hD hS hl
                    refine lv_istore (lv' := [(10, .int y27.1), (9, .int s22.1), (8, .int y16), (7, .int s12.1), (6, .int y10), (5, .int y9.2), (4, .int y8.2), (3, va_re ad (M.2 b2 ((9 : Int32)).toNatClampNeg)), (0, .ref (ad a)), (1, .int p0), (2, .int p1)]) hx hb dX9_direct_190 hl (by decide) rfl (fun ls hl => ?_)
                    refine lv_iload_n hx hb dX9_direct_192 rfl (lv_at hl 10 rfl) ?_
                    refine lv_iload hx hb dX9_direct_193 (lv_at hl 1 rfl) ?_
                    refine lv_ishr hx hb dX9_direct_195 ?_
                    obtain ⟨x28, ex28, hF⟩ := ltt_some hF
                    refine lv_topi (fun zx28 ezx28 => ?_)
                    obtain rfl : x28 = zx28 := ex28.trans ezx28.symm
                    refine lv_iconst (v := (1 : Int32)) hx hb dX9_direct_196 (by decide) ?_
                    refine lv_iand hx hb dX9_direct_197 ?_
                    obtain ⟨x29, ex29, hF⟩ := ltt_some hF
                    refine lv_topi (fun zx29 ezx29 => ?_)
                    obtain rfl : x29 = zx29 := ex29.trans ezx29.symm
                    refine lv_iconst (v := (1 : Int32)) hx hb dX9_direct_198 (by decide) ?_
                    obtain ⟨y30, hy30, hF⟩ := bnd_some hF
                    have J30 : ∀ (H : Heap) (locs : List Loc) (ls : Array Slot), va_P D classes (wld ct ad G y30) H → va_D A (wld ct ad G y30) → va_S A s.heap H locs → lv_has ls 11 [(10, .int y27.1), (9, .int s22.1), (8, .int y16), (7, .int s12.1), (6, .int y10), (5, .int y9.2), (4, .int y8.2), (3, va_re ad (M.2 b2 ((9 : Int32)).toNatClampNeg)), (0, .ref (ad a)), (1, .int p0), (2, .int p1)] → W p l e (headSpec wsX9_direct ({ frames := 3, cells := 0, slots := 0, locals := 79 })).room s m ([.ref (ad a), .int p0, .int p1] : List Value).toArray below meth c H locs 0 0 (MQ below (va_Qi (fun (q : Int32) (_ : Unit) => q = y.2) (fun _ t => kE D ct ad G A y.1 t) A) ([.ref (ad a), .int p0, .int p1] : List Value).toArray s 0 0 A) (F0 m 239 ls []) := by
                      intro H locs ls hP hD hS hl
                      obtain ⟨x31, ex31, hF⟩ := ltt_some hF
                      refine lv_iinc (v := x31) (lv' := [(9, .int x31), (10, .int y27.1), (8, .int y16), (7, .int s12.1), (6, .int y10), (5, .int y9.2), (4, .int y8.2), (3, va_re ad (M.2 b2 ((9 : Int32)).toNatClampNeg)), (0, .ref (ad a)), (1, .int p0), (2, .int p1)]) hx hb dX9_direct_239 hl (k := 1) rfl (by rw [ex31]; rfl) (by decide) rfl (fun ls hl => ?_)
                      refine lv_goto (tgt := 159) hx hb dX9_direct_242 (by decide) ?_
                      obtain rfl := Option.some.inj hF
                      exact hwz25 _ _ _ hP hD hS (lv_sub hl [0, 2, 3, 4, 5, 6, 7, 8, 9, 10] rfl)
                    clear hF
                    have hF := hy30
                    clear hy30
                    refine lv_icmp_ne (tgt := 239) hx hb dX9_direct_199 (by decide) (fun c32 => ?_) (fun c32 => ?_)
                    · rw [if_neg c32] at hF
                      obtain rfl := Option.some.inj hF
                      exact J30 _ _ _ hP hD hS (lv_sub hl [0, 1, 2, 3, 4, 5, 6, 7, 8, 9, 10] rfl)
                    · rw [if_pos c32] at hF
                      refine lv_aload_n hx hb dX9_direct_202 rfl (lv_at hl 8 rfl) ?_
                      refine lv_iload_n hx hb dX9_direct_203 rfl (lv_at hl 9 rfl) ?_
                      refine lv_iload hx hb dX9_direct_204 (lv_at hl 3 rfl) ?_
                      refine lv_iload hx hb dX9_direct_206 (lv_at hl 1 rfl) ?_
                      refine lv_iload hx hb dX9_direct_208 (lv_at hl 2 rfl) ?_
                      refine lv_iload hx hb dX9_direct_210 (lv_at hl 0 rfl) ?_
                      obtain ⟨y33, hy33, hF⟩ := bnd_some hF
                      have J33 : ∀ (H : Heap) (locs : List Loc) (ls : Array Slot), va_P D classes (wld ct ad G y27.2) H → va_D A (wld ct ad G y27.2) → va_S A s.heap H locs → lv_has ls 11 [(10, .int y27.1), (9, .int s22.1), (8, .int y16), (7, .int s12.1), (6, .int y10), (5, .int y9.2), (4, .int y8.2), (3, va_re ad (M.2 b2 ((9 : Int32)).toNatClampNeg)), (0, .ref (ad a)), (1, .int p0), (2, .int p1)] → W p l e (headSpec wsX9_direct ({ frames := 3, cells := 0, slots := 0, locals := 79 })).room s m ([.ref (ad a), .int p0, .int p1] : List Value).toArray below meth c H locs 0 0 (MQ below (va_Qi (fun (q : Int32) (_ : Unit) => q = y.2) (fun _ t => kE D ct ad G A y.1 t) A) ([.ref (ad a), .int p0, .int p1] : List Value).toArray s 0 0 A) (F0 m 223 ls [.int y33, .int y16, .int s22.1, .int s12.1, .int p0, .ref (ad a)]) := by
                        intro H locs ls hP hD hS hl
                        refine lv_iload hx hb dX9_direct_223 (lv_at hl 0 rfl) ?_
                        obtain ⟨y34, hy34, hF⟩ := bnd_some hF
                        have J34 : ∀ (H : Heap) (locs : List Loc) (ls : Array Slot), va_P D classes (wld ct ad G y27.2) H → va_D A (wld ct ad G y27.2) → va_S A s.heap H locs → lv_has ls 11 [(10, .int y27.1), (9, .int s22.1), (8, .int y16), (7, .int s12.1), (6, .int y10), (5, .int y9.2), (4, .int y8.2), (3, va_re ad (M.2 b2 ((9 : Int32)).toNatClampNeg)), (0, .ref (ad a)), (1, .int p0), (2, .int p1)] → W p l e (headSpec wsX9_direct ({ frames := 3, cells := 0, slots := 0, locals := 79 })).room s m ([.ref (ad a), .int p0, .int p1] : List Value).toArray below meth c H locs 0 0 (MQ below (va_Qi (fun (q : Int32) (_ : Unit) => q = y.2) (fun _ t => kE D ct ad G A y.1 t) A) ([.ref (ad a), .int p0, .int p1] : List Value).toArray s 0 0 A) (F0 m 236 ls [.int y34, .int y33, .int y16, .int s22.1, .int s12.1, .int p0, .ref (ad a)]) := by
                          intro H locs ls hP hD hS hl
                          obtain ⟨y35, hy35, hF⟩ := bnd_some hF
                          have hf9 := wA_in hD hA9 hS
                          refine va_callv (va_runV (As := [.int p0, .int s12.1, .int s22.1, .int y16, .int y33, .int y34]) (rest := []) ⟨hx, hb, hml, hown, hts⟩ (kX9_setQuarter l D ct ad Z G y27.2 H.size a p0 s12.1 s22.1 y16 y33 y34 y35 hc hk hy35) (cwV 6 hts gX9_direct_X9_setQuarter rfl rfl rfl (by decide +kernel) ⟨Nat.le_of_ble_eq_true rfl, Nat.le_of_ble_eq_true rfl⟩) ⟨fun a U g mk q => by obtain ⟨q0, q1, qP, qK, qD, qZ, qN⟩ := q; exact ⟨q0, q1, qP, va_K.moved (u := U) (U := U.calling g mk a) (Vm.Alike.refl U.vm) qK, qD, sF.moved (u := U) (U := U.calling g mk a) (Vm.Alike.refl U.vm) qZ, nF.same rfl qN⟩, va_recv hK hP (ci := 9) (q0 := a) rfl (wld_o ct ad G y27.2 hc hk (by decide)), fun U hU hW => ⟨rfl, by rw [hU], by rw [hU]; exact hP, va_K.moved hW.alike hK, hD.weaken (fun _ _ _ _ => trivial), by rw [hU]; exact ((hZ.kept hS.2.1).narrow hf9).moved hW.alike, hN.warm hW⟩⟩ rfl rfl hl.1 rfl (lv_room (Nat.le_of_ble_eq_true rfl)) dX9_direct_236 ⟨(Nat.zero_le _), (Nat.zero_le _)⟩) hS (fun q _ h => hf9 q h) hf9 (fun u t H locs ht hvm hw hB hz1 hk1 hS => ?_)
                          obtain ⟨hP, hK9, hD9⟩ := hB
                          rw [ht] at hP
                          have hD := hD9.weaken (fun _ q _ h => hf9 q.1 h)
                          obtain rfl := Option.some.inj hF
                          exact J30 _ _ _ hP hD hS (lv_sub hl [0, 1, 2, 3, 4, 5, 6, 7, 8, 9, 10] rfl)
                        clear hF
                        have hF := hy34
                        clear hy34
                        refine lv_if_eq (tgt := 232) hx hb dX9_direct_225 (by decide) (fun c36 => ?_) (fun c36 => ?_)
                        · rw [if_pos c36] at hF
                          refine lv_aload_n hx hb dX9_direct_232 rfl (lv_at hl 8 rfl) ?_
                          refine va_get (D := D) (ci := 9) (v := .int (y27.2.1 a 19)) (C := RX9) (T := TX9) (N := 20) hx hb hts (by decide +kernel) hown hK hP a (wld_o ct ad G y27.2 hc hk (by decide)) rfl 19 (by decide) (hts (.fieldLink RX9 176 "VideoSuite$Work" "guessY" "I") (by decide +kernel)) (fun _ h9 => h9) rfl dX9_direct_233 ?_
                          obtain ⟨x37, ex37, hF⟩ := ltt_some hF
                          refine lv_topi (fun zx37 ezx37 => ?_)
                          obtain rfl : x37 = zx37 := ex37.trans ezx37.symm
                          obtain rfl := Option.some.inj hF
                          exact J34 _ _ _ hP hD hS (lv_sub hl [0, 1, 2, 3, 4, 5, 6, 7, 8, 9, 10] rfl)
                        · rw [if_neg c36] at hF
                          refine lv_iconst (v := (0 : Int32)) hx hb dX9_direct_228 (by decide) ?_
                          refine lv_goto (tgt := 236) hx hb dX9_direct_229 (by decide) ?_
                          obtain rfl := Option.some.inj hF
                          exact J34 _ _ _ hP hD hS (lv_sub hl [0, 1, 2, 3, 4, 5, 6, 7, 8, 9, 10] rfl)
                      clear hF
                      have hF := hy33
                      clear hy33
                      refine lv_if_eq (tgt := 219) hx hb dX9_direct_212 (by decide) (fun c38 => ?_) (fun c38 => ?_)
                      · rw [if_pos c38] at hF
                        refine lv_aload_n hx hb dX9_direct_219 rfl (lv_at hl 8 rfl) ?_
                        refine va_get (D := D) (ci := 9) (v := .int (y27.2.1 a 18)) (C := RX9) (T := TX9) (N := 20) hx hb hts (by decide +kernel) hown hK hP a (wld_o ct ad G y27.2 hc hk (by decide)) rfl 18 (by decide) (hts (.fieldLink RX9 173 "VideoSuite$Work" "guessX" "I") (by decide +kernel)) (fun _ h9 => h9) rfl dX9_direct_220 ?_
                        obtain ⟨x39, ex39, hF⟩ := ltt_some hF
                        refine lv_topi (fun zx39 ezx39 => ?_)
                        obtain rfl : x39 = zx39 := ex39.trans ezx39.symm
                        obtain rfl := Option.some.inj hF
                        exact J33 _ _ _ hP hD hS (lv_sub hl [0, 1, 2, 3, 4, 5, 6, 7, 8, 9, 10] rfl)
                      · rw [if_neg c38] at hF
                        refine lv_iconst (v := (0 : Int32)) hx hb dX9_direct_215 (by decide) ?_
                        refine lv_goto (tgt := 223) hx hb dX9_direct_216 (by decide) ?_
                        obtain rfl := Option.some.inj hF
                        exact J33 _ _ _ hP hD hS (lv_sub hl [0, 1, 2, 3, 4, 5, 6, 7, 8, 9, 10] rfl)
                  clear hF
                  have hF := hy27
                  clear hy27
                  refine lv_if_ne (tgt := 189) hx hb dX9_direct_167 (by decide) (fun c40 => ?_) (fun c40 => ?_)
                  · rw [if_neg c40] at hF
                    refine lv_iconst (v := (0 : Int32)) hx hb dX9_direct_189 (by decide) ?_
                    obtain rfl := Option.some.inj hF
                    exact J27 _ _ _ hP hD hS (lv_sub hl [0, 1, 2, 3, 4, 5, 6, 7, 8, 9] rfl)
                  · rw [if_pos c40] at hF
                    refine lv_iload hx hb dX9_direct_170 (lv_at hl 3 rfl) ?_
                    obtain ⟨y41, hy41, hF⟩ := bnd_some hF
                    have J41 : ∀ (H : Heap) (locs : List Loc) (ls : Array Slot), va_P D classes (wld ct ad G y41.2) H → va_D A (wld ct ad G y41.2) → va_S A s.heap H locs → lv_has ls 11 [(9, .int s22.1), (8, .int y16), (7, .int s12.1), (6, .int y10), (5, .int y9.2), (4, .int y8.2), (3, va_re ad (M.2 b2 ((9 : Int32)).toNatClampNeg)), (0, .ref (ad a)), (1, .int p0), (2, .int p1)] → W p l e (headSpec wsX9_direct ({ frames := 3, cells := 0, slots := 0, locals := 79 })).room s m ([.ref (ad a), .int p0, .int p1] : List Value).toArray below meth c H locs 0 0 (MQ below (va_Qi (fun (q : Int32) (_ : Unit) => q = y.2) (fun _ t => kE D ct ad G A y.1 t) A) ([.ref (ad a), .int p0, .int p1] : List Value).toArray s 0 0 A) (F0 m 190 ls [.int y41.1]) := by
                      intro H locs ls hP hD hS hl
                      obtain rfl := Option.some.inj hF
                      exact J27 _ _ _ hP hD hS (lv_sub hl [0, 1, 2, 3, 4, 5, 6, 7, 8, 9] rfl)
                    clear hF
                    have hF := hy41
                    clear hy41
                    refine lv_if_ne (tgt := 189) hx hb dX9_direct_172 (by decide) (fun c42 => ?_) (fun c42 => ?_)
                    · rw [if_neg c42] at hF
                      refine lv_iconst (v := (0 : Int32)) hx hb dX9_direct_189 (by decide) ?_
                      obtain rfl := Option.some.inj hF
                      exact J41 _ _ _ hP hD hS (lv_sub hl [0, 1, 2, 3, 4, 5, 6, 7, 8, 9] rfl)
                    · rw [if_pos c42] at hF
                      refine lv_aloadq_n hx hb dX9_direct_175 rfl (lv_at hl 6 rfl) ?_
                      refine lv_iload_n hx hb dX9_direct_176 rfl (lv_at hl 8 rfl) ?_
                      refine lv_iload hx hb dX9_direct_177 (lv_at hl 0 rfl) ?_
                      obtain ⟨y43, hy43, hF⟩ := bnd_some hF
                      have hf9 := wA_in hD hA9 hS
                      refine va_calli (va_runS (As := [va_re ad (M.2 b2 ((9 : Int32)).toNatClampNeg), .int p0, .int s22.1]) (rest := []) ⟨hx, hb, hml, hown, hts⟩ (kX9_isStill l D ct ad Z G s22.2 H.size ((M.2 b2 ((9 : Int32)).toNatClampNeg)) p0 s22.1 y43 hy43) (va_cwS 3 hts gX9_direct_X9_isStill rfl rfl rfl (by decide +kernel) ⟨Nat.le_of_ble_eq_true rfl, Nat.le_of_ble_eq_true rfl⟩) ⟨fun a U g mk q => by obtain ⟨q0, q1, qP, qK, qD, qZ, qN⟩ := q; exact ⟨q0, q1, qP, va_K.moved (u := U) (U := U.calling g mk a) (Vm.Alike.refl U.vm) qK, qD, sF.moved (u := U) (U := U.calling g mk a) (Vm.Alike.refl U.vm) qZ, nF.same rfl qN⟩, fun U hU hW => ⟨rfl, by rw [hU], by rw [hU]; exact hP, va_K.moved hW.alike hK, hD.weaken (fun _ _ _ _ => trivial), by rw [hU]; exact ((hZ.kept hS.2.1).narrow hf9).moved hW.alike, hN.warm hW⟩⟩ rfl rfl hl.1 rfl (lv_room (Nat.le_of_ble_eq_true rfl)) dX9_direct_179 ⟨(Nat.zero_le _), (Nat.zero_le _)⟩) hS (fun q _ h => hf9 q h) hf9 (fun r u t H locs ht hvm hw hB hz1 hk1 hS => ?_)
                      obtain ⟨hP, hK9, hD9⟩ := hB
                      rw [ht] at hP
                      try dsimp only at hw
                      subst hw
                      have hD := hD9.weaken (fun _ q _ h => hf9 q.1 h)
                      obtain ⟨y44, hy44, hF⟩ := bnd_some hF
                      have J44 : ∀ (H : Heap) (locs : List Loc) (ls : Array Slot), va_P D classes (wld ct ad G y43.1) H → va_D A (wld ct ad G y43.1) → va_S A s.heap H locs → lv_has ls 11 [(9, .int s22.1), (8, .int y16), (7, .int s12.1), (6, .int y10), (5, .int y9.2), (4, .int y8.2), (3, va_re ad (M.2 b2 ((9 : Int32)).toNatClampNeg)), (0, .ref (ad a)), (1, .int p0), (2, .int p1)] → W p l e (headSpec wsX9_direct ({ frames := 3, cells := 0, slots := 0, locals := 79 })).room s m ([.ref (ad a), .int p0, .int p1] : List Value).toArray below meth c H locs 0 0 (MQ below (va_Qi (fun (q : Int32) (_ : Unit) => q = y.2) (fun _ t => kE D ct ad G A y.1 t) A) ([.ref (ad a), .int p0, .int p1] : List Value).toArray s 0 0 A) (F0 m 190 ls [.int y44]) := by
                        intro H locs ls hP hD hS hl
                        obtain rfl := Option.some.inj hF
                        exact J41 _ _ _ hP hD hS (lv_sub hl [0, 1, 2, 3, 4, 5, 6, 7, 8, 9] rfl)
                      clear hF
                      have hF := hy44
                      clear hy44
                      refine lv_if_eq (tgt := 189) hx hb dX9_direct_182 (by decide) (fun c45 => ?_) (fun c45 => ?_)
                      · rw [if_pos c45] at hF
                        refine lv_iconst (v := (0 : Int32)) hx hb dX9_direct_189 (by decide) ?_
                        obtain rfl := Option.some.inj hF
                        exact J44 _ _ _ hP hD hS (lv_sub hl [0, 1, 2, 3, 4, 5, 6, 7, 8, 9] rfl)
                      · rw [if_neg c45] at hF
                        refine lv_iconst (v := (1 : Int32)) hx hb dX9_direct_185 (by decide) ?_
                        refine lv_goto (tgt := 190) hx hb dX9_direct_186 (by decide) ?_
                        obtain rfl := Option.some.inj hF
                        exact J44 _ _ _ hP hD hS (lv_sub hl [0, 1, 2, 3, 4, 5, 6, 7, 8, 9] rfl)
              clear hF
              have hF := hy20
              clear hy20
              refine lv_if_lt (tgt := 156) hx hb dX9_direct_135 (by decide) (fun c46 => ?_) (fun c46 => ?_)
              · rw [if_pos c46] at hF
                obtain rfl := Option.some.inj hF
                exact J20 _ _ _ hP hD hS (lv_sub hl [0, 1, 2, 3, 4, 5, 6, 7, 8] rfl)
              · rw [if_neg c46] at hF
                refine lv_iload hx hb dX9_direct_138 (lv_at hl 2 rfl) ?_
                obtain ⟨y47, hy47, hF⟩ := bnd_some hF
                have J47 : ∀ (H : Heap) (locs : List Loc) (ls : Array Slot), va_P D classes (wld ct ad G y47) H → va_D A (wld ct ad G y47) → va_S A s.heap H locs → lv_has ls 11 [(8, .int y16), (7, .int s12.1), (6, .int y10), (5, .int y9.2), (4, .int y8.2), (3, va_re ad (M.2 b2 ((9 : Int32)).toNatClampNeg)), (0, .ref (ad a)), (1, .int p0), (2, .int p1)] → W p l e (headSpec wsX9_direct ({ frames := 3, cells := 0, slots := 0, locals := 79 })).room s m ([.ref (ad a), .int p0, .int p1] : List Value).toArray below meth c H locs 0 0 (MQ below (va_Qi (fun (q : Int32) (_ : Unit) => q = y.2) (fun _ t => kE D ct ad G A y.1 t) A) ([.ref (ad a), .int p0, .int p1] : List Value).toArray s 0 0 A) (F0 m 156 ls []) := by
                  intro H locs ls hP hD hS hl
                  obtain rfl := Option.some.inj hF
                  exact J20 _ _ _ hP hD hS (lv_sub hl [0, 1, 2, 3, 4, 5, 6, 7, 8] rfl)
                clear hF
                have hF := hy47
                clear hy47
                refine lv_if_ne (tgt := 156) hx hb dX9_direct_140 (by decide) (fun c48 => ?_) (fun c48 => ?_)
                · rw [if_neg c48] at hF
                  obtain rfl := Option.some.inj hF
                  exact J47 _ _ _ hP hD hS (lv_sub hl [0, 1, 2, 3, 4, 5, 6, 7, 8] rfl)
                · rw [if_pos c48] at hF
                  refine lv_aload_n hx hb dX9_direct_143 rfl (lv_at hl 6 rfl) ?_
                  refine lv_iload_n hx hb dX9_direct_144 rfl (lv_at hl 7 rfl) ?_
                  refine lv_iload hx hb dX9_direct_145 (lv_at hl 1 rfl) ?_
                  refine lv_iload hx hb dX9_direct_147 (lv_at hl 0 rfl) ?_
                  refine lv_iconst (v := (0 : Int32)) hx hb dX9_direct_149 (by decide) ?_
                  refine lv_bipush (v := (16 : Int32)) hx hb dX9_direct_150 (by decide) ?_
                  refine lv_iconst (v := (0 : Int32)) hx hb dX9_direct_152 (by decide) ?_
                  obtain ⟨y49, hy49, hF⟩ := bnd_some hF
                  have hf9 := wA_in hD hA9 hS
                  refine va_callv (va_runV (As := [.int p0, .int s12.1, .int y16, .int (0 : Int32), .int (16 : Int32), .int (0 : Int32)]) (rest := []) ⟨hx, hb, hml, hown, hts⟩ (kX9_guess l D ct ad Z G M18 H.size a p0 s12.1 y16 ((0 : Int32)) ((16 : Int32)) ((0 : Int32)) y49 hc hk hy49) (cwV 6 hts gX9_direct_X9_guess rfl rfl rfl (by decide +kernel) ⟨Nat.le_of_ble_eq_true rfl, Nat.le_of_ble_eq_true rfl⟩) ⟨fun a U g mk q => by obtain ⟨q0, q1, qP, qK, qD, qZ, qN⟩ := q; exact ⟨q0, q1, qP, va_K.moved (u := U) (U := U.calling g mk a) (Vm.Alike.refl U.vm) qK, qD, sF.moved (u := U) (U := U.calling g mk a) (Vm.Alike.refl U.vm) qZ, nF.same rfl qN⟩, va_recv hK hP (ci := 9) (q0 := a) rfl (wld_o ct ad G M18 hc hk (by decide)), fun U hU hW => ⟨rfl, by rw [hU], by rw [hU]; exact hP, va_K.moved hW.alike hK, hD.weaken (fun _ _ _ _ => trivial), by rw [hU]; exact ((hZ.kept hS.2.1).narrow hf9).moved hW.alike, hN.warm hW⟩⟩ rfl rfl hl.1 rfl (lv_room (Nat.le_of_ble_eq_true rfl)) dX9_direct_153 ⟨(Nat.zero_le _), (Nat.zero_le _)⟩) hS (fun q _ h => hf9 q h) hf9 (fun u t H locs ht hvm hw hB hz1 hk1 hS => ?_)
                  obtain ⟨hP, hK9, hD9⟩ := hB
                  rw [ht] at hP
                  have hD := hD9.weaken (fun _ q _ h => hf9 q.1 h)
                  obtain rfl := Option.some.inj hF
                  exact J47 _ _ _ hP hD hS (lv_sub hl [0, 1, 2, 3, 4, 5, 6, 7, 8] rfl)
            · rw [if_neg c19] at hF
              refine lv_aload_n hx hb dX9_direct_115 rfl (lv_at hl 6 rfl) ?_
              refine va_get (D := D) (ci := 9) (v := va_re ad (M18.2 a 3)) (C := RX9) (T := TX9) (N := 20) hx hb hts (by decide +kernel) hown hK hP a (wld_o ct ad G M18 hc hk (by decide)) rfl 3 (by decide) (hts (.fieldLink RX9 11 "VideoSuite$Work" "lists" "[LVideoSuite$Picture;") (by decide +kernel)) (fun _ h9 => h9) rfl dX9_direct_116 ?_
              refine lv_bipush (v := (9 : Int32)) hx hb dX9_direct_119 (by decide) ?_
              refine lv_iload hx hb dX9_direct_121 (lv_at hl 1 rfl) ?_
              refine lv_imul hx hb dX9_direct_123 ?_
              obtain ⟨x50, ex50, hF⟩ := ltt_some hF
              refine lv_topi (fun zx50 ezx50 => ?_)
              obtain rfl : x50 = zx50 := ex50.trans ezx50.symm
              refine lv_iload hx hb dX9_direct_124 (lv_at hl 0 rfl) ?_
              refine lv_iadd hx hb dX9_direct_126 ?_
              obtain ⟨x51, ex51, hF⟩ := ltt_some hF
              refine lv_topi (fun zx51 ezx51 => ?_)
              obtain rfl : x51 = zx51 := ex51.trans ezx51.symm
              obtain ⟨b52, ho52, hc52, hk52, hF⟩ := dr_some hF
              refine W_st (st' := [.int x51, .ref (ad b52)]) (by rw [va_some ho52]) ?_
              obtain ⟨hvc, hF⟩ := chk_some hF
              refine ld_q hx hb hK hP hc52 hk52 hvc dX9_direct_127 ?_
              refine lv_ifnonnullq (tgt := 133) hx hb dX9_direct_128 (by decide) (fun c53 => ?_) (fun c53 => ?_)
              · rw [if_neg c53] at hF
                refine lv_iload hx hb dX9_direct_133 (lv_at hl 0 rfl) ?_
                obtain ⟨y54, hy54, hF⟩ := bnd_some hF
                have J54 : ∀ (H : Heap) (locs : List Loc) (ls : Array Slot), va_P D classes (wld ct ad G y54) H → va_D A (wld ct ad G y54) → va_S A s.heap H locs → lv_has ls 11 [(8, .int y16), (7, .int s12.1), (6, .int y10), (5, .int y9.2), (4, .int y8.2), (3, va_re ad (M.2 b2 ((9 : Int32)).toNatClampNeg)), (0, .ref (ad a)), (1, .int p0), (2, .int p1)] → W p l e (headSpec wsX9_direct ({ frames := 3, cells := 0, slots := 0, locals := 79 })).room s m ([.ref (ad a), .int p0, .int p1] : List Value).toArray below meth c H locs 0 0 (MQ below (va_Qi (fun (q : Int32) (_ : Unit) => q = y.2) (fun _ t => kE D ct ad G A y.1 t) A) ([.ref (ad a), .int p0, .int p1] : List Value).toArray s 0 0 A) (F0 m 156 ls []) := by
                  intro H locs ls hP hD hS hl
                  refine lv_iconst (v := (0 : Int32)) hx hb dX9_direct_156 (by decide) ?_
                  refine lv_istore (lv' := [(9, .int (0 : Int32)), (8, .int y16), (7, .int s12.1), (6, .int y10), (5, .int y9.2), (4, .int y8.2), (3, va_re ad (M.2 b2 ((9 : Int32)).toNatClampNeg)), (0, .ref (ad a)), (1, .int p0), (2, .int p1)]) hx hb dX9_direct_157 hl (by decide) rfl (fun ls hl => ?_)
                  obtain ⟨y55, hy55, hF⟩ := bnd_some hF
                  have K55 : ∀ (H : Heap) (locs : List Loc) (ls : Array Slot), va_P D classes (wld ct ad G y55.2) H → va_D A (wld ct ad G y55.2) → va_S A s.heap H locs → lv_has ls 11 [(9, .int y55.1), (8, .int y16), (7, .int s12.1), (6, .int y10), (5, .int y9.2), (4, .int y8.2), (3, va_re ad (M.2 b2 ((9 : Int32)).toNatClampNeg)), (0, .ref (ad a)), (1, .int p0), (2, .int p1)] → W p l e (headSpec wsX9_direct ({ frames := 3, cells := 0, slots := 0, locals := 79 })).room s m ([.ref (ad a), .int p0, .int p1] : List Value).toArray below meth c H locs 0 0 (MQ below (va_Qi (fun (q : Int32) (_ : Unit) => q = y.2) (fun _ t => kE D ct ad G A y.1 t) A) ([.ref (ad a), .int p0, .int p1] : List Value).toArray s 0 0 A) (F0 m 245 ls []) := by
                    intro H locs ls hP hD hS hl
                    obtain ⟨x58, ex58, hF⟩ := ltt_some hF
                    refine lv_iinc (v := x58) (lv' := [(7, .int x58), (9, .int y55.1), (8, .int y16), (6, .int y10), (5, .int y9.2), (4, .int y8.2), (3, va_re ad (M.2 b2 ((9 : Int32)).toNatClampNeg)), (0, .ref (ad a)), (1, .int p0), (2, .int p1)]) hx hb dX9_direct_245 hl (k := 2) rfl (by rw [ex58]; rfl) (by decide) rfl (fun ls hl => ?_)
                    refine lv_goto (tgt := 71) hx hb dX9_direct_248 (by decide) ?_
                    obtain rfl := Option.some.inj hF
                    exact hwz14 _ _ _ hP hD hS (lv_sub hl [0, 3, 4, 5, 6, 7, 8, 9] rfl)
                  clear hF
                  refine itr_rule (fun (s56 : Int32 × DD) => ∀ (H : Heap) (locs : List Loc) (ls : Array Slot), va_P D classes (wld ct ad G s56.2) H → va_D A (wld ct ad G s56.2) → va_S A s.heap H locs → lv_has ls 11 [(9, .int s56.1), (8, .int y16), (7, .int s12.1), (6, .int y10), (5, .int y9.2), (4, .int y8.2), (3, va_re ad (M.2 b2 ((9 : Int32)).toNatClampNeg)), (0, .ref (ad a)), (1, .int p0), (2, .int p1)] → W p l e (headSpec wsX9_direct ({ frames := 3, cells := 0, slots := 0, locals := 79 })).room s m ([.ref (ad a), .int p0, .int p1] : List Value).toArray below meth c H locs 0 0 (MQ below (va_Qi (fun (q : Int32) (_ : Unit) => q = y.2) (fun _ t => kE D ct ad G A y.1 t) A) ([.ref (ad a), .int p0, .int p1] : List Value).toArray s 0 0 A) (F0 m 159 ls [])) ?_ _ _ hy55 _ _ _ hP hD hS (lv_sub hl [0, 1, 2, 3, 4, 5, 6, 7, 8, 9] rfl)
                  rintro s56 ⟨z59, hF, hwz59⟩ H locs ls hP hD hS hl
                  try dsimp only at hF
                  refine lv_iload hx hb dX9_direct_159 (lv_at hl 0 rfl) ?_
                  refine lv_iconst (v := (4 : Int32)) hx hb dX9_direct_161 (by decide) ?_
                  refine lv_icmp_ge (tgt := 245) hx hb dX9_direct_162 (by decide) (fun c60 => ?_) (fun c60 => ?_)
                  · rw [if_pos c60] at hF
                    obtain rfl := Option.some.inj hF
                    subst hwz59
                    exact K55 _ _ _ hP hD hS (lv_sub hl [0, 1, 2, 3, 4, 5, 6, 7, 8, 9] rfl)
                  · rw [if_neg c60] at hF
                    refine lv_iload hx hb dX9_direct_165 (lv_at hl 1 rfl) ?_
                    obtain ⟨y61, hy61, hF⟩ := bnd_some hF
                    have J61 : ∀ (H : Heap) (locs : List Loc) (ls : Array Slot), va_P D classes (wld ct ad G y61.2) H → va_D A (wld ct ad G y61.2) → va_S A s.heap H locs → lv_has ls 11 [(9, .int s56.1), (8, .int y16), (7, .int s12.1), (6, .int y10), (5, .int y9.2), (4, .int y8.2), (3, va_re ad (M.2 b2 ((9 : Int32)).toNatClampNeg)), (0, .ref (ad a)), (1, .int p0), (2, .int p1)] → W p l e (headSpec wsX9_direct ({ frames := 3, cells := 0, slots := 0, locals := 79 })).room s m ([.ref (ad a), .int p0, .int p1] : List Value).toArray below meth c H locs 0 0 (MQ below (va_Qi (fun (q : Int32) (_ : Unit) => q = y.2) (fun _ t => kE D ct ad G A y.1 t) A) ([.ref (ad a), .int p0, .int p1] : List Value).toArray s 0 0 A) (F0 m 190 ls [.int y61.1]) := by
                      intro H locs ls hP hD hS hl
                      refine lv_istore (lv' := [(10, .int y61.1), (9, .int s56.1), (8, .int y16), (7, .int s12.1), (6, .int y10), (5, .int y9.2), (4, .int y8.2), (3, va_re ad (M.2 b2 ((9 : Int32)).toNatClampNeg)), (0, .ref (ad a)), (1, .int p0), (2, .int p1)]) hx hb dX9_direct_190 hl (by decide) rfl (fun ls hl => ?_)
                      refine lv_iload_n hx hb dX9_direct_192 rfl (lv_at hl 10 rfl) ?_
                      refine lv_iload hx hb dX9_direct_193 (lv_at hl 1 rfl) ?_
                      refine lv_ishr hx hb dX9_direct_195 ?_
                      obtain ⟨x62, ex62, hF⟩ := ltt_some hF
                      refine lv_topi (fun zx62 ezx62 => ?_)
                      obtain rfl : x62 = zx62 := ex62.trans ezx62.symm
                      refine lv_iconst (v := (1 : Int32)) hx hb dX9_direct_196 (by decide) ?_
                      refine lv_iand hx hb dX9_direct_197 ?_
                      obtain ⟨x63, ex63, hF⟩ := ltt_some hF
                      refine lv_topi (fun zx63 ezx63 => ?_)
                      obtain rfl : x63 = zx63 := ex63.trans ezx63.symm
                      refine lv_iconst (v := (1 : Int32)) hx hb dX9_direct_198 (by decide) ?_
                      obtain ⟨y64, hy64, hF⟩ := bnd_some hF
                      have J64 : ∀ (H : Heap) (locs : List Loc) (ls : Array Slot), va_P D classes (wld ct ad G y64) H → va_D A (wld ct ad G y64) → va_S A s.heap H locs → lv_has ls 11 [(10, .int y61.1), (9, .int s56.1), (8, .int y16), (7, .int s12.1), (6, .int y10), (5, .int y9.2), (4, .int y8.2), (3, va_re ad (M.2 b2 ((9 : Int32)).toNatClampNeg)), (0, .ref (ad a)), (1, .int p0), (2, .int p1)] → W p l e (headSpec wsX9_direct ({ frames := 3, cells := 0, slots := 0, locals := 79 })).room s m ([.ref (ad a), .int p0, .int p1] : List Value).toArray below meth c H locs 0 0 (MQ below (va_Qi (fun (q : Int32) (_ : Unit) => q = y.2) (fun _ t => kE D ct ad G A y.1 t) A) ([.ref (ad a), .int p0, .int p1] : List Value).toArray s 0 0 A) (F0 m 239 ls []) := by
                        intro H locs ls hP hD hS hl
                        obtain ⟨x65, ex65, hF⟩ := ltt_some hF
                        refine lv_iinc (v := x65) (lv' := [(9, .int x65), (10, .int y61.1), (8, .int y16), (7, .int s12.1), (6, .int y10), (5, .int y9.2), (4, .int y8.2), (3, va_re ad (M.2 b2 ((9 : Int32)).toNatClampNeg)), (0, .ref (ad a)), (1, .int p0), (2, .int p1)]) hx hb dX9_direct_239 hl (k := 1) rfl (by rw [ex65]; rfl) (by decide) rfl (fun ls hl => ?_)
                        refine lv_goto (tgt := 159) hx hb dX9_direct_242 (by decide) ?_
                        obtain rfl := Option.some.inj hF
                        exact hwz59 _ _ _ hP hD hS (lv_sub hl [0, 2, 3, 4, 5, 6, 7, 8, 9, 10] rfl)
                      clear hF
                      have hF := hy64
                      clear hy64
                      refine lv_icmp_ne (tgt := 239) hx hb dX9_direct_199 (by decide) (fun c66 => ?_) (fun c66 => ?_)
                      · rw [if_neg c66] at hF
                        obtain rfl := Option.some.inj hF
                        exact J64 _ _ _ hP hD hS (lv_sub hl [0, 1, 2, 3, 4, 5, 6, 7, 8, 9, 10] rfl)
                      · rw [if_pos c66] at hF
                        refine lv_aload_n hx hb dX9_direct_202 rfl (lv_at hl 8 rfl) ?_
                        refine lv_iload_n hx hb dX9_direct_203 rfl (lv_at hl 9 rfl) ?_
                        refine lv_iload hx hb dX9_direct_204 (lv_at hl 3 rfl) ?_
                        refine lv_iload hx hb dX9_direct_206 (lv_at hl 1 rfl) ?_
                        refine lv_iload hx hb dX9_direct_208 (lv_at hl 2 rfl) ?_
                        refine lv_iload hx hb dX9_direct_210 (lv_at hl 0 rfl) ?_
                        obtain ⟨y67, hy67, hF⟩ := bnd_some hF
                        have J67 : ∀ (H : Heap) (locs : List Loc) (ls : Array Slot), va_P D classes (wld ct ad G y61.2) H → va_D A (wld ct ad G y61.2) → va_S A s.heap H locs → lv_has ls 11 [(10, .int y61.1), (9, .int s56.1), (8, .int y16), (7, .int s12.1), (6, .int y10), (5, .int y9.2), (4, .int y8.2), (3, va_re ad (M.2 b2 ((9 : Int32)).toNatClampNeg)), (0, .ref (ad a)), (1, .int p0), (2, .int p1)] → W p l e (headSpec wsX9_direct ({ frames := 3, cells := 0, slots := 0, locals := 79 })).room s m ([.ref (ad a), .int p0, .int p1] : List Value).toArray below meth c H locs 0 0 (MQ below (va_Qi (fun (q : Int32) (_ : Unit) => q = y.2) (fun _ t => kE D ct ad G A y.1 t) A) ([.ref (ad a), .int p0, .int p1] : List Value).toArray s 0 0 A) (F0 m 223 ls [.int y67, .int y16, .int s56.1, .int s12.1, .int p0, .ref (ad a)]) := by
                          intro H locs ls hP hD hS hl
                          refine lv_iload hx hb dX9_direct_223 (lv_at hl 0 rfl) ?_
                          obtain ⟨y68, hy68, hF⟩ := bnd_some hF
                          have J68 : ∀ (H : Heap) (locs : List Loc) (ls : Array Slot), va_P D classes (wld ct ad G y61.2) H → va_D A (wld ct ad G y61.2) → va_S A s.heap H locs → lv_has ls 11 [(10, .int y61.1), (9, .int s56.1), (8, .int y16), (7, .int s12.1), (6, .int y10), (5, .int y9.2), (4, .int y8.2), (3, va_re ad (M.2 b2 ((9 : Int32)).toNatClampNeg)), (0, .ref (ad a)), (1, .int p0), (2, .int p1)] → W p l e (headSpec wsX9_direct ({ frames := 3, cells := 0, slots := 0, locals := 79 })).room s m ([.ref (ad a), .int p0, .int p1] : List Value).toArray below meth c H locs 0 0 (MQ below (va_Qi (fun (q : Int32) (_ : Unit) => q = y.2) (fun _ t => kE D ct ad G A y.1 t) A) ([.ref (ad a), .int p0, .int p1] : List Value).toArray s 0 0 A) (F0 m 236 ls [.int y68, .int y67, .int y16, .int s56.1, .int s12.1, .int p0, .ref (ad a)]) := by
                            intro H locs ls hP hD hS hl
                            obtain ⟨y69, hy69, hF⟩ := bnd_some hF
                            have hf9 := wA_in hD hA9 hS
                            refine va_callv (va_runV (As := [.int p0, .int s12.1, .int s56.1, .int y16, .int y67, .int y68]) (rest := []) ⟨hx, hb, hml, hown, hts⟩ (kX9_setQuarter l D ct ad Z G y61.2 H.size a p0 s12.1 s56.1 y16 y67 y68 y69 hc hk hy69) (cwV 6 hts gX9_direct_X9_setQuarter rfl rfl rfl (by decide +kernel) ⟨Nat.le_of_ble_eq_true rfl, Nat.le_of_ble_eq_true rfl⟩) ⟨fun a U g mk q => by obtain ⟨q0, q1, qP, qK, qD, qZ, qN⟩ := q; exact ⟨q0, q1, qP, va_K.moved (u := U) (U := U.calling g mk a) (Vm.Alike.refl U.vm) qK, qD, sF.moved (u := U) (U := U.calling g mk a) (Vm.Alike.refl U.vm) qZ, nF.same rfl qN⟩, va_recv hK hP (ci := 9) (q0 := a) rfl (wld_o ct ad G y61.2 hc hk (by decide)), fun U hU hW => ⟨rfl, by rw [hU], by rw [hU]; exact hP, va_K.moved hW.alike hK, hD.weaken (fun _ _ _ _ => trivial), by rw [hU]; exact ((hZ.kept hS.2.1).narrow hf9).moved hW.alike, hN.warm hW⟩⟩ rfl rfl hl.1 rfl (lv_room (Nat.le_of_ble_eq_true rfl)) dX9_direct_236 ⟨(Nat.zero_le _), (Nat.zero_le _)⟩) hS (fun q _ h => hf9 q h) hf9 (fun u t H locs ht hvm hw hB hz1 hk1 hS => ?_)
                            obtain ⟨hP, hK9, hD9⟩ := hB
                            rw [ht] at hP
                            have hD := hD9.weaken (fun _ q _ h => hf9 q.1 h)
                            obtain rfl := Option.some.inj hF
                            exact J64 _ _ _ hP hD hS (lv_sub hl [0, 1, 2, 3, 4, 5, 6, 7, 8, 9, 10] rfl)
                          clear hF
                          have hF := hy68
                          clear hy68
                          refine lv_if_eq (tgt := 232) hx hb dX9_direct_225 (by decide) (fun c70 => ?_) (fun c70 => ?_)
                          · rw [if_pos c70] at hF
                            refine lv_aload_n hx hb dX9_direct_232 rfl (lv_at hl 8 rfl) ?_
                            refine va_get (D := D) (ci := 9) (v := .int (y61.2.1 a 19)) (C := RX9) (T := TX9) (N := 20) hx hb hts (by decide +kernel) hown hK hP a (wld_o ct ad G y61.2 hc hk (by decide)) rfl 19 (by decide) (hts (.fieldLink RX9 176 "VideoSuite$Work" "guessY" "I") (by decide +kernel)) (fun _ h9 => h9) rfl dX9_direct_233 ?_
                            obtain ⟨x71, ex71, hF⟩ := ltt_some hF
                            refine lv_topi (fun zx71 ezx71 => ?_)
                            obtain rfl : x71 = zx71 := ex71.trans ezx71.symm
                            obtain rfl := Option.some.inj hF
                            exact J68 _ _ _ hP hD hS (lv_sub hl [0, 1, 2, 3, 4, 5, 6, 7, 8, 9, 10] rfl)
                          · rw [if_neg c70] at hF
                            refine lv_iconst (v := (0 : Int32)) hx hb dX9_direct_228 (by decide) ?_
                            refine lv_goto (tgt := 236) hx hb dX9_direct_229 (by decide) ?_
                            obtain rfl := Option.some.inj hF
                            exact J68 _ _ _ hP hD hS (lv_sub hl [0, 1, 2, 3, 4, 5, 6, 7, 8, 9, 10] rfl)
                        clear hF
                        have hF := hy67
                        clear hy67
                        refine lv_if_eq (tgt := 219) hx hb dX9_direct_212 (by decide) (fun c72 => ?_) (fun c72 => ?_)
                        · rw [if_pos c72] at hF
                          refine lv_aload_n hx hb dX9_direct_219 rfl (lv_at hl 8 rfl) ?_
                          refine va_get (D := D) (ci := 9) (v := .int (y61.2.1 a 18)) (C := RX9) (T := TX9) (N := 20) hx hb hts (by decide +kernel) hown hK hP a (wld_o ct ad G y61.2 hc hk (by decide)) rfl 18 (by decide) (hts (.fieldLink RX9 173 "VideoSuite$Work" "guessX" "I") (by decide +kernel)) (fun _ h9 => h9) rfl dX9_direct_220 ?_
                          obtain ⟨x73, ex73, hF⟩ := ltt_some hF
                          refine lv_topi (fun zx73 ezx73 => ?_)
                          obtain rfl : x73 = zx73 := ex73.trans ezx73.symm
                          obtain rfl := Option.some.inj hF
                          exact J67 _ _ _ hP hD hS (lv_sub hl [0, 1, 2, 3, 4, 5, 6, 7, 8, 9, 10] rfl)
                        · rw [if_neg c72] at hF
                          refine lv_iconst (v := (0 : Int32)) hx hb dX9_direct_215 (by decide) ?_
                          refine lv_goto (tgt := 223) hx hb dX9_direct_216 (by decide) ?_
                          obtain rfl := Option.some.inj hF
                          exact J67 _ _ _ hP hD hS (lv_sub hl [0, 1, 2, 3, 4, 5, 6, 7, 8, 9, 10] rfl)
                    clear hF
                    have hF := hy61
                    clear hy61
                    refine lv_if_ne (tgt := 189) hx hb dX9_direct_167 (by decide) (fun c74 => ?_) (fun c74 => ?_)
                    · rw [if_neg c74] at hF
                      refine lv_iconst (v := (0 : Int32)) hx hb dX9_direct_189 (by decide) ?_
                      obtain rfl := Option.some.inj hF
                      exact J61 _ _ _ hP hD hS (lv_sub hl [0, 1, 2, 3, 4, 5, 6, 7, 8, 9] rfl)
                    · rw [if_pos c74] at hF
                      refine lv_iload hx hb dX9_direct_170 (lv_at hl 3 rfl) ?_
                      obtain ⟨y75, hy75, hF⟩ := bnd_some hF
                      have J75 : ∀ (H : Heap) (locs : List Loc) (ls : Array Slot), va_P D classes (wld ct ad G y75.2) H → va_D A (wld ct ad G y75.2) → va_S A s.heap H locs → lv_has ls 11 [(9, .int s56.1), (8, .int y16), (7, .int s12.1), (6, .int y10), (5, .int y9.2), (4, .int y8.2), (3, va_re ad (M.2 b2 ((9 : Int32)).toNatClampNeg)), (0, .ref (ad a)), (1, .int p0), (2, .int p1)] → W p l e (headSpec wsX9_direct ({ frames := 3, cells := 0, slots := 0, locals := 79 })).room s m ([.ref (ad a), .int p0, .int p1] : List Value).toArray below meth c H locs 0 0 (MQ below (va_Qi (fun (q : Int32) (_ : Unit) => q = y.2) (fun _ t => kE D ct ad G A y.1 t) A) ([.ref (ad a), .int p0, .int p1] : List Value).toArray s 0 0 A) (F0 m 190 ls [.int y75.1]) := by
                        intro H locs ls hP hD hS hl
                        obtain rfl := Option.some.inj hF
                        exact J61 _ _ _ hP hD hS (lv_sub hl [0, 1, 2, 3, 4, 5, 6, 7, 8, 9] rfl)
                      clear hF
                      have hF := hy75
                      clear hy75
                      refine lv_if_ne (tgt := 189) hx hb dX9_direct_172 (by decide) (fun c76 => ?_) (fun c76 => ?_)
                      · rw [if_neg c76] at hF
                        refine lv_iconst (v := (0 : Int32)) hx hb dX9_direct_189 (by decide) ?_
                        obtain rfl := Option.some.inj hF
                        exact J75 _ _ _ hP hD hS (lv_sub hl [0, 1, 2, 3, 4, 5, 6, 7, 8, 9] rfl)
                      · rw [if_pos c76] at hF
                        refine lv_aloadq_n hx hb dX9_direct_175 rfl (lv_at hl 6 rfl) ?_
                        refine lv_iload_n hx hb dX9_direct_176 rfl (lv_at hl 8 rfl) ?_
                        refine lv_iload hx hb dX9_direct_177 (lv_at hl 0 rfl) ?_
                        obtain ⟨y77, hy77, hF⟩ := bnd_some hF
                        have hf9 := wA_in hD hA9 hS
                        refine va_calli (va_runS (As := [va_re ad (M.2 b2 ((9 : Int32)).toNatClampNeg), .int p0, .int s56.1]) (rest := []) ⟨hx, hb, hml, hown, hts⟩ (kX9_isStill l D ct ad Z G s56.2 H.size ((M.2 b2 ((9 : Int32)).toNatClampNeg)) p0 s56.1 y77 hy77) (va_cwS 3 hts gX9_direct_X9_isStill rfl rfl rfl (by decide +kernel) ⟨Nat.le_of_ble_eq_true rfl, Nat.le_of_ble_eq_true rfl⟩) ⟨fun a U g mk q => by obtain ⟨q0, q1, qP, qK, qD, qZ, qN⟩ := q; exact ⟨q0, q1, qP, va_K.moved (u := U) (U := U.calling g mk a) (Vm.Alike.refl U.vm) qK, qD, sF.moved (u := U) (U := U.calling g mk a) (Vm.Alike.refl U.vm) qZ, nF.same rfl qN⟩, fun U hU hW => ⟨rfl, by rw [hU], by rw [hU]; exact hP, va_K.moved hW.alike hK, hD.weaken (fun _ _ _ _ => trivial), by rw [hU]; exact ((hZ.kept hS.2.1).narrow hf9).moved hW.alike, hN.warm hW⟩⟩ rfl rfl hl.1 rfl (lv_room (Nat.le_of_ble_eq_true rfl)) dX9_direct_179 ⟨(Nat.zero_le _), (Nat.zero_le _)⟩) hS (fun q _ h => hf9 q h) hf9 (fun r u t H locs ht hvm hw hB hz1 hk1 hS => ?_)
                        obtain ⟨hP, hK9, hD9⟩ := hB
                        rw [ht] at hP
                        try dsimp only at hw
                        subst hw
                        have hD := hD9.weaken (fun _ q _ h => hf9 q.1 h)
                        obtain ⟨y78, hy78, hF⟩ := bnd_some hF
                        have J78 : ∀ (H : Heap) (locs : List Loc) (ls : Array Slot), va_P D classes (wld ct ad G y77.1) H → va_D A (wld ct ad G y77.1) → va_S A s.heap H locs → lv_has ls 11 [(9, .int s56.1), (8, .int y16), (7, .int s12.1), (6, .int y10), (5, .int y9.2), (4, .int y8.2), (3, va_re ad (M.2 b2 ((9 : Int32)).toNatClampNeg)), (0, .ref (ad a)), (1, .int p0), (2, .int p1)] → W p l e (headSpec wsX9_direct ({ frames := 3, cells := 0, slots := 0, locals := 79 })).room s m ([.ref (ad a), .int p0, .int p1] : List Value).toArray below meth c H locs 0 0 (MQ below (va_Qi (fun (q : Int32) (_ : Unit) => q = y.2) (fun _ t => kE D ct ad G A y.1 t) A) ([.ref (ad a), .int p0, .int p1] : List Value).toArray s 0 0 A) (F0 m 190 ls [.int y78]) := by
                          intro H locs ls hP hD hS hl
                          obtain rfl := Option.some.inj hF
                          exact J75 _ _ _ hP hD hS (lv_sub hl [0, 1, 2, 3, 4, 5, 6, 7, 8, 9] rfl)
                        clear hF
                        have hF := hy78
                        clear hy78
                        refine lv_if_eq (tgt := 189) hx hb dX9_direct_182 (by decide) (fun c79 => ?_) (fun c79 => ?_)
                        · rw [if_pos c79] at hF
                          refine lv_iconst (v := (0 : Int32)) hx hb dX9_direct_189 (by decide) ?_
                          obtain rfl := Option.some.inj hF
                          exact J78 _ _ _ hP hD hS (lv_sub hl [0, 1, 2, 3, 4, 5, 6, 7, 8, 9] rfl)
                        · rw [if_neg c79] at hF
                          refine lv_iconst (v := (1 : Int32)) hx hb dX9_direct_185 (by decide) ?_
                          refine lv_goto (tgt := 190) hx hb dX9_direct_186 (by decide) ?_
                          obtain rfl := Option.some.inj hF
                          exact J78 _ _ _ hP hD hS (lv_sub hl [0, 1, 2, 3, 4, 5, 6, 7, 8, 9] rfl)
                clear hF
                have hF := hy54
                clear hy54
                refine lv_if_lt (tgt := 156) hx hb dX9_direct_135 (by decide) (fun c80 => ?_) (fun c80 => ?_)
                · rw [if_pos c80] at hF
                  obtain rfl := Option.some.inj hF
                  exact J54 _ _ _ hP hD hS (lv_sub hl [0, 1, 2, 3, 4, 5, 6, 7, 8] rfl)
                · rw [if_neg c80] at hF
                  refine lv_iload hx hb dX9_direct_138 (lv_at hl 2 rfl) ?_
                  obtain ⟨y81, hy81, hF⟩ := bnd_some hF
                  have J81 : ∀ (H : Heap) (locs : List Loc) (ls : Array Slot), va_P D classes (wld ct ad G y81) H → va_D A (wld ct ad G y81) → va_S A s.heap H locs → lv_has ls 11 [(8, .int y16), (7, .int s12.1), (6, .int y10), (5, .int y9.2), (4, .int y8.2), (3, va_re ad (M.2 b2 ((9 : Int32)).toNatClampNeg)), (0, .ref (ad a)), (1, .int p0), (2, .int p1)] → W p l e (headSpec wsX9_direct ({ frames := 3, cells := 0, slots := 0, locals := 79 })).room s m ([.ref (ad a), .int p0, .int p1] : List Value).toArray below meth c H locs 0 0 (MQ below (va_Qi (fun (q : Int32) (_ : Unit) => q = y.2) (fun _ t => kE D ct ad G A y.1 t) A) ([.ref (ad a), .int p0, .int p1] : List Value).toArray s 0 0 A) (F0 m 156 ls []) := by
                    intro H locs ls hP hD hS hl
                    obtain rfl := Option.some.inj hF
                    exact J54 _ _ _ hP hD hS (lv_sub hl [0, 1, 2, 3, 4, 5, 6, 7, 8] rfl)
                  clear hF
                  have hF := hy81
                  clear hy81
                  refine lv_if_ne (tgt := 156) hx hb dX9_direct_140 (by decide) (fun c82 => ?_) (fun c82 => ?_)
                  · rw [if_neg c82] at hF
                    obtain rfl := Option.some.inj hF
                    exact J81 _ _ _ hP hD hS (lv_sub hl [0, 1, 2, 3, 4, 5, 6, 7, 8] rfl)
                  · rw [if_pos c82] at hF
                    refine lv_aload_n hx hb dX9_direct_143 rfl (lv_at hl 6 rfl) ?_
                    refine lv_iload_n hx hb dX9_direct_144 rfl (lv_at hl 7 rfl) ?_
                    refine lv_iload hx hb dX9_direct_145 (lv_at hl 1 rfl) ?_
                    refine lv_iload hx hb dX9_direct_147 (lv_at hl 0 rfl) ?_
                    refine lv_iconst (v := (0 : Int32)) hx hb dX9_direct_149 (by decide) ?_
                    refine lv_bipush (v := (16 : Int32)) hx hb dX9_direct_150 (by decide) ?_
                    refine lv_iconst (v := (0 : Int32)) hx hb dX9_direct_152 (by decide) ?_
                    obtain ⟨y83, hy83, hF⟩ := bnd_some hF
                    have hf9 := wA_in hD hA9 hS
                    refine va_callv (va_runV (As := [.int p0, .int s12.1, .int y16, .int (0 : Int32), .int (16 : Int32), .int (0 : Int32)]) (rest := []) ⟨hx, hb, hml, hown, hts⟩ (kX9_guess l D ct ad Z G M18 H.size a p0 s12.1 y16 ((0 : Int32)) ((16 : Int32)) ((0 : Int32)) y83 hc hk hy83) (cwV 6 hts gX9_direct_X9_guess rfl rfl rfl (by decide +kernel) ⟨Nat.le_of_ble_eq_true rfl, Nat.le_of_ble_eq_true rfl⟩) ⟨fun a U g mk q => by obtain ⟨q0, q1, qP, qK, qD, qZ, qN⟩ := q; exact ⟨q0, q1, qP, va_K.moved (u := U) (U := U.calling g mk a) (Vm.Alike.refl U.vm) qK, qD, sF.moved (u := U) (U := U.calling g mk a) (Vm.Alike.refl U.vm) qZ, nF.same rfl qN⟩, va_recv hK hP (ci := 9) (q0 := a) rfl (wld_o ct ad G M18 hc hk (by decide)), fun U hU hW => ⟨rfl, by rw [hU], by rw [hU]; exact hP, va_K.moved hW.alike hK, hD.weaken (fun _ _ _ _ => trivial), by rw [hU]; exact ((hZ.kept hS.2.1).narrow hf9).moved hW.alike, hN.warm hW⟩⟩ rfl rfl hl.1 rfl (lv_room (Nat.le_of_ble_eq_true rfl)) dX9_direct_153 ⟨(Nat.zero_le _), (Nat.zero_le _)⟩) hS (fun q _ h => hf9 q h) hf9 (fun u t H locs ht hvm hw hB hz1 hk1 hS => ?_)
                    obtain ⟨hP, hK9, hD9⟩ := hB
                    rw [ht] at hP
                    have hD := hD9.weaken (fun _ q _ h => hf9 q.1 h)
                    obtain rfl := Option.some.inj hF
                    exact J81 _ _ _ hP hD hS (lv_sub hl [0, 1, 2, 3, 4, 5, 6, 7, 8] rfl)
              · rw [if_pos c53] at hF
                refine lv_iconst (v := (0 : Int32)) hx hb dX9_direct_131 (by decide) ?_
                obtain ⟨hz9, hF⟩ := chk_some hF
                obtain rfl := Option.some.inj hF
                have hF := sel_inr (hwz14 ▸ hR11)
                obtain rfl := Option.some.inj hF
                exact W.zret (v := (0 : Int32)) (ty := .boolean) hx hb hr (nar_z hz9).1 (fun t ht hW => ⟨⟨_, (), rfl, rfl, ⟨by rw [ht]; exact hP, va_K.moved hW.alike hK, hD⟩⟩, hS.F ht⟩) hS.2.2 dX9_direct_132
          clear hF
          have hF := hy16
          clear hy16
          refine lv_if_eq (tgt := 86) hx hb dX9_direct_79 (by decide) (fun c84 => ?_) (fun c84 => ?_)
          · rw [if_pos c84] at hF
            refine lv_iload hx hb dX9_direct_86 (lv_at hl 0 rfl) ?_
            obtain ⟨y85, hy85, hF⟩ := bnd_some hF
            have J85 : ∀ (H : Heap) (locs : List Loc) (ls : Array Slot), va_P D classes (wld ct ad G s12.2) H → va_D A (wld ct ad G s12.2) → va_S A s.heap H locs → lv_has ls 11 [(7, .int s12.1), (6, .int y10), (5, .int y9.2), (4, .int y8.2), (3, va_re ad (M.2 b2 ((9 : Int32)).toNatClampNeg)), (0, .ref (ad a)), (1, .int p0), (2, .int p1)] → W p l e (headSpec wsX9_direct ({ frames := 3, cells := 0, slots := 0, locals := 79 })).room s m ([.ref (ad a), .int p0, .int p1] : List Value).toArray below meth c H locs 0 0 (MQ below (va_Qi (fun (q : Int32) (_ : Unit) => q = y.2) (fun _ t => kE D ct ad G A y.1 t) A) ([.ref (ad a), .int p0, .int p1] : List Value).toArray s 0 0 A) (F0 m 98 ls [.int y85]) := by
              intro H locs ls hP hD hS hl
              obtain rfl := Option.some.inj hF
              exact J16 _ _ _ hP hD hS (lv_sub hl [0, 1, 2, 3, 4, 5, 6, 7] rfl)
            clear hF
            have hF := hy85
            clear hy85
            refine lv_if_ne (tgt := 96) hx hb dX9_direct_88 (by decide) (fun c86 => ?_) (fun c86 => ?_)
            · rw [if_neg c86] at hF
              refine lv_iload hx hb dX9_direct_96 (lv_at hl 2 rfl) ?_
              obtain rfl := Option.some.inj hF
              exact J85 _ _ _ hP hD hS (lv_sub hl [0, 1, 2, 3, 4, 5, 6, 7] rfl)
            · rw [if_pos c86] at hF
              refine lv_iload hx hb dX9_direct_91 (lv_at hl 3 rfl) ?_
              refine lv_goto (tgt := 98) hx hb dX9_direct_93 (by decide) ?_
              obtain rfl := Option.some.inj hF
              exact J85 _ _ _ hP hD hS (lv_sub hl [0, 1, 2, 3, 4, 5, 6, 7] rfl)
          · rw [if_neg c84] at hF
            refine lv_iconst (v := (0 : Int32)) hx hb dX9_direct_82 (by decide) ?_
            refine lv_goto (tgt := 98) hx hb dX9_direct_83 (by decide) ?_
            obtain rfl := Option.some.inj hF
            exact J16 _ _ _ hP hD hS (lv_sub hl [0, 1, 2, 3, 4, 5, 6, 7] rfl)
      clear hF
      have hF := hy10
      clear hy10
      refine lv_if_ge (tgt := 65) hx hb dX9_direct_53 (by decide) (fun c87 => ?_) (fun c87 => ?_)
      · rw [if_pos c87] at hF
        refine lv_iconst (v := (0 : Int32)) hx hb dX9_direct_65 (by decide) ?_
        obtain rfl := Option.some.inj hF
        exact J10 _ _ _ hP hD hS (lv_sub hl [0, 1, 2, 3, 4, 5] rfl)
      · rw [if_neg c87] at hF
        refine lv_iload hx hb dX9_direct_56 (lv_at hl 0 rfl) ?_
        obtain ⟨y88, hy88, hF⟩ := bnd_some hF
        have J88 : ∀ (H : Heap) (locs : List Loc) (ls : Array Slot), va_P D classes (wld ct ad G y9.1) H → va_D A (wld ct ad G y9.1) → va_S A s.heap H locs → lv_has ls 11 [(5, .int y9.2), (4, .int y8.2), (3, va_re ad (M.2 b2 ((9 : Int32)).toNatClampNeg)), (0, .ref (ad a)), (1, .int p0), (2, .int p1)] → W p l e (headSpec wsX9_direct ({ frames := 3, cells := 0, slots := 0, locals := 79 })).room s m ([.ref (ad a), .int p0, .int p1] : List Value).toArray below meth c H locs 0 0 (MQ below (va_Qi (fun (q : Int32) (_ : Unit) => q = y.2) (fun _ t => kE D ct ad G A y.1 t) A) ([.ref (ad a), .int p0, .int p1] : List Value).toArray s 0 0 A) (F0 m 66 ls [.int y88]) := by
          intro H locs ls hP hD hS hl
          obtain rfl := Option.some.inj hF
          exact J10 _ _ _ hP hD hS (lv_sub hl [0, 1, 2, 3, 4, 5] rfl)
        clear hF
        have hF := hy88
        clear hy88
        refine lv_if_ge (tgt := 65) hx hb dX9_direct_58 (by decide) (fun c89 => ?_) (fun c89 => ?_)
        · rw [if_pos c89] at hF
          refine lv_iconst (v := (0 : Int32)) hx hb dX9_direct_65 (by decide) ?_
          obtain rfl := Option.some.inj hF
          exact J88 _ _ _ hP hD hS (lv_sub hl [0, 1, 2, 3, 4, 5] rfl)
        · rw [if_neg c89] at hF
          refine lv_iconst (v := (1 : Int32)) hx hb dX9_direct_61 (by decide) ?_
          refine lv_goto (tgt := 66) hx hb dX9_direct_62 (by decide) ?_
          obtain rfl := Option.some.inj hF
          exact J88 _ _ _ hP hD hS (lv_sub hl [0, 1, 2, 3, 4, 5] rfl)
    · rw [if_pos c7] at hF
      refine lv_aload_n hx hb dX9_direct_27 rfl (lv_at hl 1 rfl) ?_
      refine lv_iload_n hx hb dX9_direct_28 rfl (lv_at hl 2 rfl) ?_
      refine lv_iload_n hx hb dX9_direct_29 rfl (lv_at hl 3 rfl) ?_
      refine lv_aloadq_n hx hb dX9_direct_30 rfl (lv_at hl 0 rfl) ?_
      obtain ⟨y90, hy90, hF⟩ := bnd_some hF
      have hf9 := wA_in hD hA9 hS
      refine va_calli (va_runV (As := [.int p0, .int p1, va_re ad (M.2 b2 ((9 : Int32)).toNatClampNeg)]) (rest := []) ⟨hx, hb, hml, hown, hts⟩ (kX9_directByTime l D ct ad Z G M s.heap.size a p0 p1 ((M.2 b2 ((9 : Int32)).toNatClampNeg)) y90 hc hk hy90) (cwV 3 hts gX9_direct_X9_directByTime rfl rfl rfl (by decide +kernel) ⟨Nat.le_of_ble_eq_true rfl, Nat.le_of_ble_eq_true rfl⟩) ⟨fun a U g mk q => by obtain ⟨q0, q1, qP, qK, qD, qZ, qN⟩ := q; exact ⟨q0, q1, qP, va_K.moved (u := U) (U := U.calling g mk a) (Vm.Alike.refl U.vm) qK, qD, sF.moved (u := U) (U := U.calling g mk a) (Vm.Alike.refl U.vm) qZ, nF.same rfl qN⟩, va_recv hK hP (ci := 9) (q0 := a) rfl (wld_o ct ad G M hc hk (by decide)), fun U hU hW => ⟨rfl, by rw [hU], by rw [hU]; exact hP, va_K.moved hW.alike hK, hD.weaken (fun _ _ _ _ => trivial), by rw [hU]; exact ((hZ.kept hS.2.1).narrow hf9).moved hW.alike, hN.warm hW⟩⟩ rfl rfl hl.1 rfl (lv_room (Nat.le_of_ble_eq_true rfl)) dX9_direct_31 ⟨(Nat.zero_le _), (Nat.zero_le _)⟩) hS (fun q _ h => hf9 q h) hf9 (fun r u t H locs ht hvm hw hB hz1 hk1 hS => ?_)
      obtain ⟨hP, hK9, hD9⟩ := hB
      rw [ht] at hP
      try dsimp only at hw
      subst hw
      have hD := hD9.weaken (fun _ q _ h => hf9 q.1 h)
      obtain ⟨hz9, hF⟩ := chk_some hF
      obtain rfl := Option.some.inj hF
      exact W.zret (v := y90.2) (ty := .boolean) hx hb hr (nar_z hz9).1 (fun t ht hW => ⟨⟨_, (), rfl, rfl, ⟨by rw [ht]; exact hP, va_K.moved hW.alike hK, hD⟩⟩, hS.F ht⟩) hS.2.2 dX9_direct_34
  · rw [if_pos c3] at hF
    refine lv_iconst (v := (0 : Int32)) hx hb dX9_direct_12 (by decide) ?_
    obtain ⟨hz9, hF⟩ := chk_some hF
    obtain rfl := Option.some.inj hF
    exact W.zret (v := (0 : Int32)) (ty := .boolean) hx hb hr (nar_z hz9).1 (fun t ht hW => ⟨⟨_, (), rfl, rfl, ⟨by rw [ht]; exact hP, va_K.moved hW.alike hK, hD⟩⟩, hS.F ht⟩) hS.2.2 dX9_direct_13
theorem ggL_demux_X11_demux : GoodIn wsL_demux wsX11_demux := goodIn_ca (goodIn_r _ [6, 7, 8, 9, 10, 11, 12, 13, 14, 15, 16, 17, 18, 19, 20, 21, 22, 23, 24, 25, 26, 27, 28, 29, 30, 31, 32, 33, 34, 35, 36, 37, 38, 39, 40, 41, 42, 43, 44, 45, 46, 47, 48, 49, 50, 51, 52, 53, 54, 55, 56, 57, 5, 58, 59, 60, 61, 62, 63, 64, 65, 66, 67, 68, 69, 70, 71, 72, 73, 74, 75, 76, 77, 78, 79, 80, 81, 82, 83, 84, 85, 86, 87, 88, 89, 90, 91, 92, 93, 94, 95, 96, 97, 98, 99, 100, 101, 102, 103, 104, 105, 106, 107, 108, 109, 110, 111, 112, 113, 114, 115, 116, 117, 118, 119, 120, 121, 122, 123, 124, 125, 126, 127, 128, 129, 130, 131, 132, 133, 134, 135, 136, 137, 138, 139, 140, 141, 142, 143, 144, 145, 146, 147, 148, 149, 150, 151, 152, 153, 154, 155, 156, 157, 158, 159, 160, 161, 162, 163, 164, 165, 166, 167, 168, 169, 170, 171, 172, 173, 174, 175, 176, 177, 178, 179, 180, 181, 182, 183, 184, 185, 186, 187, 188, 189, 190, 191, 192, 193, 194, 195, 196, 197, 198, 199, 200, 201, 202, 203, 204, 205, 206, 207, 208, 209, 210, 211, 212, 213] (by decide +kernel) (by decide +kernel)) (goodIn_sub (fun _ h => List.mem_cons_of_mem _ (List.mem_append_right _ h)) (by decide +kernel))
set_option maxRecDepth 20000 in
theorem gL_demux_X11_demux : GoodIn wsL_demux (wsV RL 49 RX11 yX11_demux wsX11_demux) := goodIn_app (goodIn_of _ (by decide +kernel)) ggL_demux_X11_demux
theorem dL_demux_0 : decode cL_demux 0 = .ok (.aload_n 1, 1) := by decide +kernel
theorem dL_demux_1 : decode cL_demux 1 = .ok (.iconst 0, 1) := by decide +kernel
theorem dL_demux_2 : decode cL_demux 2 = .ok (.aload_n 0, 1) := by decide +kernel
theorem dL_demux_3 : decode cL_demux 3 = .ok (.invokevirtual 49, 3) := by decide +kernel
theorem dL_demux_6 : decode cL_demux 6 = .ok (.iastore, 1) := by decide +kernel
theorem dL_demux_7 : decode cL_demux 7 = .ok (.goto 6, 3) := by decide +kernel
theorem dL_demux_10 : decode cL_demux 10 = .ok (.astore_n 2, 1) := by decide +kernel
theorem dL_demux_11 : decode cL_demux 11 = .ok (.iconst 1, 1) := by decide +kernel
theorem dL_demux_12 : decode cL_demux 12 = .ok (.ireturn, 1) := by decide +kernel
theorem dL_demux_13 : decode cL_demux 13 = .ok (.iconst 0, 1) := by decide +kernel
theorem dL_demux_14 : decode cL_demux 14 = .ok (.ireturn, 1) := by decide +kernel
def FL_demux (G : GG) (M : DD) (p0 : Option Nat) (p1 : Option Nat) : Option (DD × Int32) :=
  dr G 11 p0 fun b2 =>
  bnd (FX11_demux G M b2) fun y3 =>
  dr G 13 p1 fun b4 =>
  chk (¬ (((0 : Int32)) < 0 ∨ G.2.2 b4 ≤ ((0 : Int32)).toNatClampNeg)) <|
  ltt (uI y3.1 b4 ((0 : Int32)).toNatClampNeg y3.2) fun M5 =>
  some (M5, (0 : Int32))
set_option maxHeartbeats 4000000 in
set_option maxRecDepth 100000 in
theorem kL_demux (l : Launch) (D : va_G) (ct : CT) (ad : Nat → Nat) (Z : Nat → Nat) (G : GG) (M : DD) (sz : Nat) (p0 : Option Nat) (p1 : Option Nat) (y : DD × Int32) (hF : FL_demux G M p0 p1 = some y) : Met l yL_demux wsL_demux ({ frames := 4, cells := 0, slots := 0, locals := 146 }) (va_Pc [va_re ad p0, va_re ad p1] (kB D ct ad Z G M sz)) (va_Qi (fun (q : Int32) (_ : Unit) => q = y.2) (fun _ t => kE D ct ad G (wA ad G sz) y.1 t) (wA ad G sz)) 0 0 (wA ad G sz) := by
  refine mt_ofWH (cc := cL_demux) (maxL := 3) (ret := (some .int)) (hh := [(0, 7, 10, 15)]) (by decide) rfl ?_
  intro p e s m args below meth c s₁ B hml hv
  obtain ⟨rfl, hsz, hP, hK, hD0, hZ, hN⟩ := hv
  have hx := B.exec
  have hb := B.bytes
  have hr := B.returns
  have hts := atoms_spec (ws := wsL_demux) B.pre
  have hown : s.vm.findClass RL = some m.cls := findClass_of_methodNamed B.named
  have hlocks := B.notSynchronized
  subst hsz
  have hD := wD_self (sz := s.heap.size) hD0
  have hA9 : ∀ q, s.heap.size ≤ q → wA ad G s.heap.size q := fun q h => Or.inr h
  generalize hAe : wA ad G s.heap.size = A at hD hA9 hZ ⊢
  have hS : va_S A s.heap s.heap [] := va_S.rf
  have hl := lv_entry ([va_re ad p0, va_re ad p1]) (n := 3) (by cases p0 <;> cases p1 <;> exact Nat.le_of_ble_eq_true rfl)
  rw [lg_entry_eq]
  generalize (lg_sl ([va_re ad p0, va_re ad p1]) ++ List.replicate (3 - (lg_sl ([va_re ad p0, va_re ad p1])).length) Slot.unset).toArray = ls at hl ⊢
  have hl : lv_has ls 3 [(0, va_re ad p0), (1, va_re ad p1)] := by have e9 : lv_args 0 [va_re ad p0, va_re ad p1] = [(0, va_re ad p0), (1, va_re ad p1)] := (by cases p0 <;> cases p1 <;> rfl); rw [e9] at hl; exact hl
  unfold FL_demux at hF
  refine lv_aloadq_n hx hb dL_demux_0 rfl (lv_at hl 1 rfl) ?_
  refine lv_iconst (v := (0 : Int32)) hx hb dL_demux_1 (by decide) ?_
  refine lv_aloadq_n hx hb dL_demux_2 rfl (lv_at hl 0 rfl) ?_
  obtain ⟨b2, ho2, hc2, hk2, hF⟩ := dr_some hF
  refine W_st (st' := [.ref (ad b2), .int (0 : Int32), va_re ad p1]) (by rw [va_some ho2]) ?_
  obtain ⟨y3, hy3, hF⟩ := bnd_some hF
  have hf9 := wA_in hD hA9 hS
  refine va_calli (va_runV (As := []) (rest := [.int (0 : Int32), va_re ad p1]) ⟨hx, hb, hml, hown, hts⟩ (kX11_demux l D ct ad Z G M s.heap.size b2 y3 hc2 hk2 hy3) (cwV 0 hts gL_demux_X11_demux rfl rfl rfl (by decide +kernel) ⟨Nat.le_of_ble_eq_true rfl, Nat.le_of_ble_eq_true rfl⟩) ⟨fun a U g mk q => by obtain ⟨q0, q1, qP, qK, qD, qZ, qN⟩ := q; exact ⟨q0, q1, qP, va_K.moved (u := U) (U := U.calling g mk a) (Vm.Alike.refl U.vm) qK, qD, sF.moved (u := U) (U := U.calling g mk a) (Vm.Alike.refl U.vm) qZ, nF.same rfl qN⟩, va_recv hK hP (ci := 11) (q0 := b2) rfl (wld_o ct ad G M hc2 hk2 (by decide)), fun U hU hW => ⟨rfl, by rw [hU], by rw [hU]; exact hP, va_K.moved hW.alike hK, hD.weaken (fun _ _ _ _ => trivial), by rw [hU]; exact ((hZ.kept hS.2.1).narrow hf9).moved hW.alike, hN.warm hW⟩⟩ rfl rfl hl.1 rfl (lv_room (by simp only [List.map, va_re_cat]; exact Nat.le_of_ble_eq_true rfl)) dL_demux_3 ⟨(Nat.zero_le _), (Nat.zero_le _)⟩) hS (fun q _ h => hf9 q h) hf9 (fun r u t H locs ht hvm hw hB hz1 hk1 hS => ?_)
  obtain ⟨hP, hK9, hD9⟩ := hB
  rw [ht] at hP
  try dsimp only at hw
  subst hw
  have hD := hD9.weaken (fun _ q _ h => hf9 q.1 h)
  obtain ⟨b4, ho4, hc4, hk4, hF⟩ := dr_some hF
  refine W_st (st' := [.int y3.2, .int (0 : Int32), .ref (ad b4)]) (by rw [va_some ho4]) ?_
  obtain ⟨hvc, hF⟩ := chk_some hF
  refine va_iast hx hb hK hP hD hS b4 1 (wld_i ct ad G y3.1 hc4 hk4) rfl hvc dL_demux_6 (fun H locs hP hD hS => ?_)
  obtain ⟨M5, eM5, hF⟩ := ltt_some hF
  rw [set_i ct ad G y3.1 hc4 hk4, ← eM5] at hP hD
  refine lv_goto (tgt := 13) hx hb dL_demux_7 (by decide) ?_
  refine lv_iconst (v := (0 : Int32)) hx hb dL_demux_13 (by decide) ?_
  obtain rfl := Option.some.inj hF
  exact W.iret (v := (0 : Int32)) hx hb hr (fun t ht hW => ⟨⟨_, (), rfl, rfl, ⟨by rw [ht]; exact hP, va_K.moved hW.alike hK, hD⟩⟩, hS.F ht⟩) hS.2.2 dL_demux_14
theorem ggL_mux_X11_mux : GoodIn wsL_mux wsX11_mux := goodIn_ca (goodIn_r _ [6, 7, 8, 9, 10, 11, 12, 13, 14, 15, 16, 17, 18, 19, 20, 21, 22, 23, 24, 25, 26, 27, 28, 29, 30, 31, 32, 33, 34, 35, 36, 37, 38, 39, 40, 41, 42, 43, 44, 45, 46, 47, 48, 49, 50, 51, 52, 53, 54, 55, 56, 57, 58, 59, 60, 61, 62, 63, 64, 65, 66, 67, 68, 69, 70, 71] (by decide +kernel) (by decide +kernel)) (goodIn_sub (fun _ h => List.mem_cons_of_mem _ (List.mem_append_right _ h)) (by decide +kernel))
set_option maxRecDepth 20000 in
theorem gL_mux_X11_mux : GoodIn wsL_mux (wsV RL 46 RX11 yX11_mux wsX11_mux) := goodIn_app (goodIn_of _ (by decide +kernel)) ggL_mux_X11_mux
theorem dL_mux_0 : decode cL_mux 0 = .ok (.aload_n 1, 1) := by decide +kernel
theorem dL_mux_1 : decode cL_mux 1 = .ok (.iconst 0, 1) := by decide +kernel
theorem dL_mux_2 : decode cL_mux 2 = .ok (.aload_n 0, 1) := by decide +kernel
theorem dL_mux_3 : decode cL_mux 3 = .ok (.invokevirtual 46, 3) := by decide +kernel
theorem dL_mux_6 : decode cL_mux 6 = .ok (.iastore, 1) := by decide +kernel
theorem dL_mux_7 : decode cL_mux 7 = .ok (.goto 6, 3) := by decide +kernel
theorem dL_mux_10 : decode cL_mux 10 = .ok (.astore_n 2, 1) := by decide +kernel
theorem dL_mux_11 : decode cL_mux 11 = .ok (.iconst 1, 1) := by decide +kernel
theorem dL_mux_12 : decode cL_mux 12 = .ok (.ireturn, 1) := by decide +kernel
theorem dL_mux_13 : decode cL_mux 13 = .ok (.iconst 0, 1) := by decide +kernel
theorem dL_mux_14 : decode cL_mux 14 = .ok (.ireturn, 1) := by decide +kernel
def FL_mux (G : GG) (M : DD) (p0 : Option Nat) (p1 : Option Nat) : Option (DD × Int32) :=
  dr G 11 p0 fun b2 =>
  bnd (FX11_mux G M b2) fun y3 =>
  dr G 13 p1 fun b4 =>
  chk (¬ (((0 : Int32)) < 0 ∨ G.2.2 b4 ≤ ((0 : Int32)).toNatClampNeg)) <|
  ltt (uI y3.1 b4 ((0 : Int32)).toNatClampNeg y3.2) fun M5 =>
  some (M5, (0 : Int32))
set_option maxHeartbeats 4000000 in
set_option maxRecDepth 100000 in
theorem kL_mux (l : Launch) (D : va_G) (ct : CT) (ad : Nat → Nat) (Z : Nat → Nat) (G : GG) (M : DD) (sz : Nat) (p0 : Option Nat) (p1 : Option Nat) (y : DD × Int32) (hF : FL_mux G M p0 p1 = some y) : Met l yL_mux wsL_mux ({ frames := 4, cells := 0, slots := 0, locals := 88 }) (va_Pc [va_re ad p0, va_re ad p1] (kB D ct ad Z G M sz)) (va_Qi (fun (q : Int32) (_ : Unit) => q = y.2) (fun _ t => kE D ct ad G (wA ad G sz) y.1 t) (wA ad G sz)) 0 0 (wA ad G sz) := by
  refine mt_ofWH (cc := cL_mux) (maxL := 3) (ret := (some .int)) (hh := [(0, 7, 10, 15)]) (by decide) rfl ?_
  intro p e s m args below meth c s₁ B hml hv
  obtain ⟨rfl, hsz, hP, hK, hD0, hZ, hN⟩ := hv
  have hx := B.exec
  have hb := B.bytes
  have hr := B.returns
  have hts := atoms_spec (ws := wsL_mux) B.pre
  have hown : s.vm.findClass RL = some m.cls := findClass_of_methodNamed B.named
  have hlocks := B.notSynchronized
  subst hsz
  have hD := wD_self (sz := s.heap.size) hD0
  have hA9 : ∀ q, s.heap.size ≤ q → wA ad G s.heap.size q := fun q h => Or.inr h
  generalize hAe : wA ad G s.heap.size = A at hD hA9 hZ ⊢
  have hS : va_S A s.heap s.heap [] := va_S.rf
  have hl := lv_entry ([va_re ad p0, va_re ad p1]) (n := 3) (by cases p0 <;> cases p1 <;> exact Nat.le_of_ble_eq_true rfl)
  rw [lg_entry_eq]
  generalize (lg_sl ([va_re ad p0, va_re ad p1]) ++ List.replicate (3 - (lg_sl ([va_re ad p0, va_re ad p1])).length) Slot.unset).toArray = ls at hl ⊢
  have hl : lv_has ls 3 [(0, va_re ad p0), (1, va_re ad p1)] := by have e9 : lv_args 0 [va_re ad p0, va_re ad p1] = [(0, va_re ad p0), (1, va_re ad p1)] := (by cases p0 <;> cases p1 <;> rfl); rw [e9] at hl; exact hl
  unfold FL_mux at hF
  refine lv_aloadq_n hx hb dL_mux_0 rfl (lv_at hl 1 rfl) ?_
  refine lv_iconst (v := (0 : Int32)) hx hb dL_mux_1 (by decide) ?_
  refine lv_aloadq_n hx hb dL_mux_2 rfl (lv_at hl 0 rfl) ?_
  obtain ⟨b2, ho2, hc2, hk2, hF⟩ := dr_some hF
  refine W_st (st' := [.ref (ad b2), .int (0 : Int32), va_re ad p1]) (by rw [va_some ho2]) ?_
  obtain ⟨y3, hy3, hF⟩ := bnd_some hF
  have hf9 := wA_in hD hA9 hS
  refine va_calli (va_runV (As := []) (rest := [.int (0 : Int32), va_re ad p1]) ⟨hx, hb, hml, hown, hts⟩ (kX11_mux l D ct ad Z G M s.heap.size b2 y3 hc2 hk2 hy3) (cwV 0 hts gL_mux_X11_mux rfl rfl rfl (by decide +kernel) ⟨Nat.le_of_ble_eq_true rfl, Nat.le_of_ble_eq_true rfl⟩) ⟨fun a U g mk q => by obtain ⟨q0, q1, qP, qK, qD, qZ, qN⟩ := q; exact ⟨q0, q1, qP, va_K.moved (u := U) (U := U.calling g mk a) (Vm.Alike.refl U.vm) qK, qD, sF.moved (u := U) (U := U.calling g mk a) (Vm.Alike.refl U.vm) qZ, nF.same rfl qN⟩, va_recv hK hP (ci := 11) (q0 := b2) rfl (wld_o ct ad G M hc2 hk2 (by decide)), fun U hU hW => ⟨rfl, by rw [hU], by rw [hU]; exact hP, va_K.moved hW.alike hK, hD.weaken (fun _ _ _ _ => trivial), by rw [hU]; exact ((hZ.kept hS.2.1).narrow hf9).moved hW.alike, hN.warm hW⟩⟩ rfl rfl hl.1 rfl (lv_room (by simp only [List.map, va_re_cat]; exact Nat.le_of_ble_eq_true rfl)) dL_mux_3 ⟨(Nat.zero_le _), (Nat.zero_le _)⟩) hS (fun q _ h => hf9 q h) hf9 (fun r u t H locs ht hvm hw hB hz1 hk1 hS => ?_)
  obtain ⟨hP, hK9, hD9⟩ := hB
  rw [ht] at hP
  try dsimp only at hw
  subst hw
  have hD := hD9.weaken (fun _ q _ h => hf9 q.1 h)
  obtain ⟨b4, ho4, hc4, hk4, hF⟩ := dr_some hF
  refine W_st (st' := [.int y3.2, .int (0 : Int32), .ref (ad b4)]) (by rw [va_some ho4]) ?_
  obtain ⟨hvc, hF⟩ := chk_some hF
  refine va_iast hx hb hK hP hD hS b4 1 (wld_i ct ad G y3.1 hc4 hk4) rfl hvc dL_mux_6 (fun H locs hP hD hS => ?_)
  obtain ⟨M5, eM5, hF⟩ := ltt_some hF
  rw [set_i ct ad G y3.1 hc4 hk4, ← eM5] at hP hD
  refine lv_goto (tgt := 13) hx hb dL_mux_7 (by decide) ?_
  refine lv_iconst (v := (0 : Int32)) hx hb dL_mux_13 (by decide) ?_
  obtain rfl := Option.some.inj hF
  exact W.iret (v := (0 : Int32)) hx hb hr (fun t ht hW => ⟨⟨_, (), rfl, rfl, ⟨by rw [ht]; exact hP, va_K.moved hW.alike hK, hD⟩⟩, hS.F ht⟩) hS.2.2 dL_mux_14
theorem ggL_sum_X11_sum : GoodIn wsL_sum wsX11_sum := goodIn_ca (goodIn_r _ [6, 7, 8, 9, 10, 11, 12, 13, 14, 15, 16, 17, 18, 19, 20, 21, 22, 23, 24, 25, 26, 27, 28, 29, 30, 31, 32, 33, 34, 35, 5, 36, 37, 38, 39, 40, 41, 42, 43, 44, 45, 46, 47, 48, 49, 50, 51, 52, 53, 54, 55, 56, 57, 58, 59, 60, 61, 62, 63, 64, 65, 66, 67, 68, 69, 70, 71, 72, 73, 74, 75, 76, 77, 78, 79, 80] (by decide +kernel) (by decide +kernel)) (goodIn_sub (fun _ h => List.mem_cons_of_mem _ (List.mem_append_right _ h)) (by decide +kernel))
set_option maxRecDepth 20000 in
theorem gL_sum_X11_sum : GoodIn wsL_sum (wsV RL 23 RX11 yX11_sum wsX11_sum) := goodIn_app (goodIn_of _ (by decide +kernel)) ggL_sum_X11_sum
theorem dL_sum_0 : decode cL_sum 0 = .ok (.aload_n 3, 1) := by decide +kernel
theorem dL_sum_1 : decode cL_sum 1 = .ok (.iconst 0, 1) := by decide +kernel
theorem dL_sum_2 : decode cL_sum 2 = .ok (.aload_n 0, 1) := by decide +kernel
theorem dL_sum_3 : decode cL_sum 3 = .ok (.iload_n 1, 1) := by decide +kernel
theorem dL_sum_4 : decode cL_sum 4 = .ok (.iload_n 2, 1) := by decide +kernel
theorem dL_sum_5 : decode cL_sum 5 = .ok (.invokevirtual 23, 3) := by decide +kernel
theorem dL_sum_8 : decode cL_sum 8 = .ok (.iastore, 1) := by decide +kernel
theorem dL_sum_9 : decode cL_sum 9 = .ok (.goto 7, 3) := by decide +kernel
theorem dL_sum_12 : decode cL_sum 12 = .ok (.astore 4, 2) := by decide +kernel
theorem dL_sum_14 : decode cL_sum 14 = .ok (.iconst 1, 1) := by decide +kernel
theorem dL_sum_15 : decode cL_sum 15 = .ok (.ireturn, 1) := by decide +kernel
theorem dL_sum_16 : decode cL_sum 16 = .ok (.iconst 0, 1) := by decide +kernel
theorem dL_sum_17 : decode cL_sum 17 = .ok (.ireturn, 1) := by decide +kernel
def FL_sum (G : GG) (M : DD) (p0 : Option Nat) (p1 : Int32) (p2 : Int32) (p3 : Option Nat) : Option (DD × Int32) :=
  dr G 11 p0 fun b2 =>
  bnd (FX11_sum G M b2 p1 p2) fun y3 =>
  dr G 13 p3 fun b4 =>
  chk (¬ (((0 : Int32)) < 0 ∨ G.2.2 b4 ≤ ((0 : Int32)).toNatClampNeg)) <|
  ltt (uI y3.1 b4 ((0 : Int32)).toNatClampNeg y3.2) fun M5 =>
  some (M5, (0 : Int32))
set_option maxHeartbeats 4000000 in
set_option maxRecDepth 100000 in
theorem kL_sum (l : Launch) (D : va_G) (ct : CT) (ad : Nat → Nat) (Z : Nat → Nat) (G : GG) (M : DD) (sz : Nat) (p0 : Option Nat) (p1 : Int32) (p2 : Int32) (p3 : Option Nat) (y : DD × Int32) (hF : FL_sum G M p0 p1 p2 p3 = some y) : Met l yL_sum wsL_sum ({ frames := 4, cells := 0, slots := 0, locals := 89 }) (va_Pc [va_re ad p0, .int p1, .int p2, va_re ad p3] (kB D ct ad Z G M sz)) (va_Qi (fun (q : Int32) (_ : Unit) => q = y.2) (fun _ t => kE D ct ad G (wA ad G sz) y.1 t) (wA ad G sz)) 0 0 (wA ad G sz) := by
  refine mt_ofWH (cc := cL_sum) (maxL := 5) (ret := (some .int)) (hh := [(0, 9, 12, 21)]) (by decide) rfl ?_
  intro p e s m args below meth c s₁ B hml hv
  obtain ⟨rfl, hsz, hP, hK, hD0, hZ, hN⟩ := hv
  have hx := B.exec
  have hb := B.bytes
  have hr := B.returns
  have hts := atoms_spec (ws := wsL_sum) B.pre
  have hown : s.vm.findClass RL = some m.cls := findClass_of_methodNamed B.named
  have hlocks := B.notSynchronized
  subst hsz
  have hD := wD_self (sz := s.heap.size) hD0
  have hA9 : ∀ q, s.heap.size ≤ q → wA ad G s.heap.size q := fun q h => Or.inr h
  generalize hAe : wA ad G s.heap.size = A at hD hA9 hZ ⊢
  have hS : va_S A s.heap s.heap [] := va_S.rf
  have hl := lv_entry ([va_re ad p0, .int p1, .int p2, va_re ad p3]) (n := 5) (by cases p0 <;> cases p3 <;> exact Nat.le_of_ble_eq_true rfl)
  rw [lg_entry_eq]
  generalize (lg_sl ([va_re ad p0, .int p1, .int p2, va_re ad p3]) ++ List.replicate (5 - (lg_sl ([va_re ad p0, .int p1, .int p2, va_re ad p3])).length) Slot.unset).toArray = ls at hl ⊢
  have hl : lv_has ls 5 [(0, va_re ad p0), (1, .int p1), (2, .int p2), (3, va_re ad p3)] := by have e9 : lv_args 0 [va_re ad p0, .int p1, .int p2, va_re ad p3] = [(0, va_re ad p0), (1, .int p1), (2, .int p2), (3, va_re ad p3)] := (by cases p0 <;> cases p3 <;> rfl); rw [e9] at hl; exact hl
  unfold FL_sum at hF
  refine lv_aloadq_n hx hb dL_sum_0 rfl (lv_at hl 3 rfl) ?_
  refine lv_iconst (v := (0 : Int32)) hx hb dL_sum_1 (by decide) ?_
  refine lv_aloadq_n hx hb dL_sum_2 rfl (lv_at hl 0 rfl) ?_
  refine lv_iload_n hx hb dL_sum_3 rfl (lv_at hl 1 rfl) ?_
  refine lv_iload_n hx hb dL_sum_4 rfl (lv_at hl 2 rfl) ?_
  obtain ⟨b2, ho2, hc2, hk2, hF⟩ := dr_some hF
  refine W_st (st' := [.int p2, .int p1, .ref (ad b2), .int (0 : Int32), va_re ad p3]) (by rw [va_some ho2]) ?_
  obtain ⟨y3, hy3, hF⟩ := bnd_some hF
  have hf9 := wA_in hD hA9 hS
  refine va_calli (va_runV (As := [.int p1, .int p2]) (rest := [.int (0 : Int32), va_re ad p3]) ⟨hx, hb, hml, hown, hts⟩ (kX11_sum l D ct ad Z G M s.heap.size b2 p1 p2 y3 hc2 hk2 hy3) (cwV 2 hts gL_sum_X11_sum rfl rfl rfl (by decide +kernel) ⟨Nat.le_of_ble_eq_true rfl, Nat.le_of_ble_eq_true rfl⟩) ⟨fun a U g mk q => by obtain ⟨q0, q1, qP, qK, qD, qZ, qN⟩ := q; exact ⟨q0, q1, qP, va_K.moved (u := U) (U := U.calling g mk a) (Vm.Alike.refl U.vm) qK, qD, sF.moved (u := U) (U := U.calling g mk a) (Vm.Alike.refl U.vm) qZ, nF.same rfl qN⟩, va_recv hK hP (ci := 11) (q0 := b2) rfl (wld_o ct ad G M hc2 hk2 (by decide)), fun U hU hW => ⟨rfl, by rw [hU], by rw [hU]; exact hP, va_K.moved hW.alike hK, hD.weaken (fun _ _ _ _ => trivial), by rw [hU]; exact ((hZ.kept hS.2.1).narrow hf9).moved hW.alike, hN.warm hW⟩⟩ rfl rfl hl.1 rfl (lv_room (by simp only [List.map, va_re_cat]; exact Nat.le_of_ble_eq_true rfl)) dL_sum_5 ⟨(Nat.zero_le _), (Nat.zero_le _)⟩) hS (fun q _ h => hf9 q h) hf9 (fun r u t H locs ht hvm hw hB hz1 hk1 hS => ?_)
  obtain ⟨hP, hK9, hD9⟩ := hB
  rw [ht] at hP
  try dsimp only at hw
  subst hw
  have hD := hD9.weaken (fun _ q _ h => hf9 q.1 h)
  obtain ⟨b4, ho4, hc4, hk4, hF⟩ := dr_some hF
  refine W_st (st' := [.int y3.2, .int (0 : Int32), .ref (ad b4)]) (by rw [va_some ho4]) ?_
  obtain ⟨hvc, hF⟩ := chk_some hF
  refine va_iast hx hb hK hP hD hS b4 1 (wld_i ct ad G y3.1 hc4 hk4) rfl hvc dL_sum_8 (fun H locs hP hD hS => ?_)
  obtain ⟨M5, eM5, hF⟩ := ltt_some hF
  rw [set_i ct ad G y3.1 hc4 hk4, ← eM5] at hP hD
  refine lv_goto (tgt := 16) hx hb dL_sum_9 (by decide) ?_
  refine lv_iconst (v := (0 : Int32)) hx hb dL_sum_16 (by decide) ?_
  obtain rfl := Option.some.inj hF
  exact W.iret (v := (0 : Int32)) hx hb hr (fun t ht hW => ⟨⟨_, (), rfl, rfl, ⟨by rw [ht]; exact hP, va_K.moved hW.alike hK, hD⟩⟩, hS.F ht⟩) hS.2.2 dL_sum_17
theorem ggL_take_X11_take : GoodIn wsL_take wsX11_take := goodIn_ca (goodIn_r _ [6, 7, 8, 9, 10, 11, 12, 13, 14, 15, 16, 17, 18, 19, 20, 21, 22, 23, 24, 25, 26, 27, 28, 29, 30, 31, 32, 33, 5, 34, 35, 36, 37, 38, 39, 40, 41, 42, 43, 44, 45, 46, 47, 48, 49, 50, 51, 52, 53, 54, 55, 56, 57, 58, 59, 60, 61, 62, 63, 64, 65, 66, 67, 68, 69, 70, 71, 72, 73, 74, 75, 76, 77, 78, 79, 80, 81, 82, 83, 84, 85, 86, 87, 88, 89, 90, 91, 92, 93, 94, 95, 96, 97, 98, 99, 100, 101, 102, 103, 104, 105, 106, 107, 108, 109, 110, 111, 112, 113, 114, 115, 116, 117, 118, 119, 120, 121, 122, 123, 124, 125, 126, 127, 128, 129, 130, 131, 132, 133, 134, 135, 136, 137, 138, 139, 140, 141, 142, 143, 144, 145, 146, 147, 148, 149, 150, 151, 152, 153, 154, 155, 156, 157, 158, 159, 160, 161, 162, 163, 164, 165, 166, 167, 168, 169, 170, 171, 172, 173, 174, 175, 176, 177, 178, 179, 180, 181, 182, 183, 184, 185, 186, 187, 188, 189, 190, 191, 192, 193, 194, 195, 196, 197, 198, 199, 200, 201, 202, 203, 204, 205, 206, 207, 208, 209, 210, 211, 212, 213, 214, 215, 216, 217, 218, 219, 220, 221, 222, 223, 224, 225, 226, 227, 228, 229, 230, 231, 232, 233] (by decide +kernel) (by decide +kernel)) (goodIn_sub (fun _ h => List.mem_cons_of_mem _ (List.mem_append_right _ h)) (by decide +kernel))
set_option maxRecDepth 20000 in
theorem gL_take_X11_take : GoodIn wsL_take (wsV RL 40 RX11 yX11_take wsX11_take) := goodIn_app (goodIn_of _ (by decide +kernel)) ggL_take_X11_take
theorem dL_take_0 : decode cL_take 0 = .ok (.aload_n 1, 1) := by decide +kernel
theorem dL_take_1 : decode cL_take 1 = .ok (.iconst 0, 1) := by decide +kernel
theorem dL_take_2 : decode cL_take 2 = .ok (.aload_n 0, 1) := by decide +kernel
theorem dL_take_3 : decode cL_take 3 = .ok (.invokevirtual 40, 3) := by decide +kernel
theorem dL_take_6 : decode cL_take 6 = .ok (.iastore, 1) := by decide +kernel
theorem dL_take_7 : decode cL_take 7 = .ok (.goto 6, 3) := by decide +kernel
theorem dL_take_10 : decode cL_take 10 = .ok (.astore_n 2, 1) := by decide +kernel
theorem dL_take_11 : decode cL_take 11 = .ok (.iconst 1, 1) := by decide +kernel
theorem dL_take_12 : decode cL_take 12 = .ok (.ireturn, 1) := by decide +kernel
theorem dL_take_13 : decode cL_take 13 = .ok (.iconst 0, 1) := by decide +kernel
theorem dL_take_14 : decode cL_take 14 = .ok (.ireturn, 1) := by decide +kernel
def FL_take (G : GG) (M : DD) (p0 : Option Nat) (p1 : Option Nat) : Option (DD × Int32) :=
  dr G 11 p0 fun b2 =>
  bnd (FX11_take G M b2) fun y3 =>
  dr G 13 p1 fun b4 =>
  chk (¬ (((0 : Int32)) < 0 ∨ G.2.2 b4 ≤ ((0 : Int32)).toNatClampNeg)) <|
  ltt (uI y3.1 b4 ((0 : Int32)).toNatClampNeg y3.2) fun M5 =>
  some (M5, (0 : Int32))
set_option maxHeartbeats 4000000 in
set_option maxRecDepth 100000 in
theorem kL_take (l : Launch) (D : va_G) (ct : CT) (ad : Nat → Nat) (Z : Nat → Nat) (G : GG) (M : DD) (sz : Nat) (p0 : Option Nat) (p1 : Option Nat) (y : DD × Int32) (hF : FL_take G M p0 p1 = some y) : Met l yL_take wsL_take ({ frames := 4, cells := 0, slots := 0, locals := 145 }) (va_Pc [va_re ad p0, va_re ad p1] (kB D ct ad Z G M sz)) (va_Qi (fun (q : Int32) (_ : Unit) => q = y.2) (fun _ t => kE D ct ad G (wA ad G sz) y.1 t) (wA ad G sz)) 0 0 (wA ad G sz) := by
  refine mt_ofWH (cc := cL_take) (maxL := 3) (ret := (some .int)) (hh := [(0, 7, 10, 15)]) (by decide) rfl ?_
  intro p e s m args below meth c s₁ B hml hv
  obtain ⟨rfl, hsz, hP, hK, hD0, hZ, hN⟩ := hv
  have hx := B.exec
  have hb := B.bytes
  have hr := B.returns
  have hts := atoms_spec (ws := wsL_take) B.pre
  have hown : s.vm.findClass RL = some m.cls := findClass_of_methodNamed B.named
  have hlocks := B.notSynchronized
  subst hsz
  have hD := wD_self (sz := s.heap.size) hD0
  have hA9 : ∀ q, s.heap.size ≤ q → wA ad G s.heap.size q := fun q h => Or.inr h
  generalize hAe : wA ad G s.heap.size = A at hD hA9 hZ ⊢
  have hS : va_S A s.heap s.heap [] := va_S.rf
  have hl := lv_entry ([va_re ad p0, va_re ad p1]) (n := 3) (by cases p0 <;> cases p1 <;> exact Nat.le_of_ble_eq_true rfl)
  rw [lg_entry_eq]
  generalize (lg_sl ([va_re ad p0, va_re ad p1]) ++ List.replicate (3 - (lg_sl ([va_re ad p0, va_re ad p1])).length) Slot.unset).toArray = ls at hl ⊢
  have hl : lv_has ls 3 [(0, va_re ad p0), (1, va_re ad p1)] := by have e9 : lv_args 0 [va_re ad p0, va_re ad p1] = [(0, va_re ad p0), (1, va_re ad p1)] := (by cases p0 <;> cases p1 <;> rfl); rw [e9] at hl; exact hl
  unfold FL_take at hF
  refine lv_aloadq_n hx hb dL_take_0 rfl (lv_at hl 1 rfl) ?_
  refine lv_iconst (v := (0 : Int32)) hx hb dL_take_1 (by decide) ?_
  refine lv_aloadq_n hx hb dL_take_2 rfl (lv_at hl 0 rfl) ?_
  obtain ⟨b2, ho2, hc2, hk2, hF⟩ := dr_some hF
  refine W_st (st' := [.ref (ad b2), .int (0 : Int32), va_re ad p1]) (by rw [va_some ho2]) ?_
  obtain ⟨y3, hy3, hF⟩ := bnd_some hF
  have hf9 := wA_in hD hA9 hS
  refine va_calli (va_runV (As := []) (rest := [.int (0 : Int32), va_re ad p1]) ⟨hx, hb, hml, hown, hts⟩ (kX11_take l D ct ad Z G M s.heap.size b2 y3 hc2 hk2 hy3) (cwV 0 hts gL_take_X11_take rfl rfl rfl (by decide +kernel) ⟨Nat.le_of_ble_eq_true rfl, Nat.le_of_ble_eq_true rfl⟩) ⟨fun a U g mk q => by obtain ⟨q0, q1, qP, qK, qD, qZ, qN⟩ := q; exact ⟨q0, q1, qP, va_K.moved (u := U) (U := U.calling g mk a) (Vm.Alike.refl U.vm) qK, qD, sF.moved (u := U) (U := U.calling g mk a) (Vm.Alike.refl U.vm) qZ, nF.same rfl qN⟩, va_recv hK hP (ci := 11) (q0 := b2) rfl (wld_o ct ad G M hc2 hk2 (by decide)), fun U hU hW => ⟨rfl, by rw [hU], by rw [hU]; exact hP, va_K.moved hW.alike hK, hD.weaken (fun _ _ _ _ => trivial), by rw [hU]; exact ((hZ.kept hS.2.1).narrow hf9).moved hW.alike, hN.warm hW⟩⟩ rfl rfl hl.1 rfl (lv_room (by simp only [List.map, va_re_cat]; exact Nat.le_of_ble_eq_true rfl)) dL_take_3 ⟨(Nat.zero_le _), (Nat.zero_le _)⟩) hS (fun q _ h => hf9 q h) hf9 (fun r u t H locs ht hvm hw hB hz1 hk1 hS => ?_)
  obtain ⟨hP, hK9, hD9⟩ := hB
  rw [ht] at hP
  try dsimp only at hw
  subst hw
  have hD := hD9.weaken (fun _ q _ h => hf9 q.1 h)
  obtain ⟨b4, ho4, hc4, hk4, hF⟩ := dr_some hF
  refine W_st (st' := [.int y3.2, .int (0 : Int32), .ref (ad b4)]) (by rw [va_some ho4]) ?_
  obtain ⟨hvc, hF⟩ := chk_some hF
  refine va_iast hx hb hK hP hD hS b4 1 (wld_i ct ad G y3.1 hc4 hk4) rfl hvc dL_take_6 (fun H locs hP hD hS => ?_)
  obtain ⟨M5, eM5, hF⟩ := ltt_some hF
  rw [set_i ct ad G y3.1 hc4 hk4, ← eM5] at hP hD
  refine lv_goto (tgt := 13) hx hb dL_take_7 (by decide) ?_
  refine lv_iconst (v := (0 : Int32)) hx hb dL_take_13 (by decide) ?_
  obtain rfl := Option.some.inj hF
  exact W.iret (v := (0 : Int32)) hx hb hr (fun t ht hW => ⟨⟨_, (), rfl, rfl, ⟨by rw [ht]; exact hP, va_K.moved hW.alike hK, hD⟩⟩, hS.F ht⟩) hS.2.2 dL_take_14
theorem ggX0_buildPieces_X6_fillLuma : GoodIn wsX0_buildPieces wsX6_fillLuma := goodIn_r _ [84, 55, 21, 34, 29, 24, 11, 8, 12, 25, 14, 15, 62, 63, 64, 85, 86, 87, 19, 88, 61, 69, 70, 89, 90, 91, 92, 93, 72, 73, 74, 26, 27, 28, 94, 95, 96, 97, 23, 98, 99, 100, 101, 123, 124, 125, 126, 127, 128, 129, 130, 131, 132, 133, 134, 135, 136, 137, 138, 139, 140, 141, 142, 157, 158, 159, 160, 161, 162, 163, 164, 165, 166, 167, 168, 169, 170, 171, 172, 173, 174, 143, 144, 145, 146, 147, 148, 149, 150, 151, 152, 153, 154, 155, 156] (by decide +kernel) (by decide +kernel)
set_option maxRecDepth 20000 in
theorem gX0_buildPieces_X6_fillLuma : GoodIn wsX0_buildPieces (wsV RX0 512 RX6 yX6_fillLuma wsX6_fillLuma) := goodIn_app (goodIn_of _ (by decide +kernel)) ggX0_buildPieces_X6_fillLuma
theorem ggX0_buildPieces_X6_measureLuma : GoodIn wsX0_buildPieces wsX6_measureLuma := goodIn_r _ [54, 21, 29, 55, 56, 24, 11, 8, 12, 25, 14, 15, 26, 27, 19, 28, 57, 58, 59, 60, 61, 23, 62, 63, 64, 65, 66, 67, 68, 69, 70, 71, 72, 73, 74, 75, 76, 77, 78, 79, 80, 123, 124, 125, 126, 127, 128, 129, 130, 131, 132, 133, 134, 135, 136, 137, 138, 139, 140, 141, 142, 157, 158, 159, 160, 161, 162, 163, 164, 165, 166, 167, 168, 169, 170, 171, 172, 173, 174, 143, 144, 145, 146, 147, 148, 149, 150, 151, 152, 153, 154, 155, 156] (by decide +kernel) (by decide +kernel)
set_option maxRecDepth 20000 in
theorem gX0_buildPieces_X6_measureLuma : GoodIn wsX0_buildPieces (wsV RX0 508 RX6 yX6_measureLuma wsX6_measureLuma) := goodIn_app (goodIn_of _ (by decide +kernel)) ggX0_buildPieces_X6_measureLuma
set_option maxRecDepth 20000 in
theorem ggX0_buildPieces_X9_sidesOf : GoodIn wsX0_buildPieces wsX9_sidesOf := goodIn_r _ [9, 10, 11, 8, 12, 13, 14, 15] (by decide +kernel) (by decide +kernel)
set_option maxRecDepth 20000 in
theorem gX0_buildPieces_X9_sidesOf : GoodIn wsX0_buildPieces (va_wsS RX0 365 yX9_sidesOf wsX9_sidesOf) := goodIn_app (goodIn_of _ (by decide +kernel)) ggX0_buildPieces_X9_sidesOf
set_option maxRecDepth 20000 in
theorem ggX0_buildPieces_X6_predictFour : GoodIn wsX0_buildPieces wsX6_predictFour := goodIn_r _ [20, 21, 22, 23, 24, 11, 8, 12, 25, 14, 15, 26, 27, 19, 28, 29, 30, 31, 32, 33, 34, 35, 36, 37, 38, 39, 40, 41, 42, 43, 44, 45, 46, 47, 48, 49, 50, 123, 124, 125, 126, 127, 128, 129, 130, 131, 132, 133, 134, 135, 136, 137, 138, 139, 140, 141, 142, 143, 144, 145, 146, 147, 148, 149, 150, 151, 152, 153, 154, 155, 156, 157, 158, 159, 160, 161, 162, 163, 164, 165, 166, 167, 168, 169, 170, 171, 172, 173, 174] (by decide +kernel) (by decide +kernel)
set_option maxRecDepth 20000 in
theorem gX0_buildPieces_X6_predictFour : GoodIn wsX0_buildPieces (wsV RX0 504 RX6 yX6_predictFour wsX6_predictFour) := goodIn_app (goodIn_of _ (by decide +kernel)) ggX0_buildPieces_X6_predictFour
set_option maxRecDepth 20000 in
theorem dX0_buildPieces_0 : decode cX0_buildPieces 0 = .ok (.bipush 8, 2) := by decide +kernel
theorem dX0_buildPieces_2 : decode cX0_buildPieces 2 = .ok (.iload_n 1, 1) := by decide +kernel
theorem dX0_buildPieces_3 : decode cX0_buildPieces 3 = .ok (.imul, 1) := by decide +kernel
theorem dX0_buildPieces_4 : decode cX0_buildPieces 4 = .ok (.istore 5, 2) := by decide +kernel
theorem dX0_buildPieces_6 : decode cX0_buildPieces 6 = .ok (.aload_n 0, 1) := by decide +kernel
theorem dX0_buildPieces_7 : decode cX0_buildPieces 7 = .ok (.getfield 36, 3) := by decide +kernel
theorem dX0_buildPieces_10 : decode cX0_buildPieces 10 = .ok (.getfield 216, 3) := by decide +kernel
theorem dX0_buildPieces_13 : decode cX0_buildPieces 13 = .ok (.iload 5, 2) := by decide +kernel
theorem dX0_buildPieces_15 : decode cX0_buildPieces 15 = .ok (.iconst 0, 1) := by decide +kernel
theorem dX0_buildPieces_16 : decode cX0_buildPieces 16 = .ok (.iadd, 1) := by decide +kernel
theorem dX0_buildPieces_17 : decode cX0_buildPieces 17 = .ok (.iaload, 1) := by decide +kernel
theorem dX0_buildPieces_18 : decode cX0_buildPieces 18 = .ok (.ifCond .ne 7, 3) := by decide +kernel
theorem dX0_buildPieces_21 : decode cX0_buildPieces 21 = .ok (.iconst 1, 1) := by decide +kernel
theorem dX0_buildPieces_22 : decode cX0_buildPieces 22 = .ok (.goto 4, 3) := by decide +kernel
theorem dX0_buildPieces_25 : decode cX0_buildPieces 25 = .ok (.iconst 0, 1) := by decide +kernel
theorem dX0_buildPieces_26 : decode cX0_buildPieces 26 = .ok (.istore 6, 2) := by decide +kernel
theorem dX0_buildPieces_28 : decode cX0_buildPieces 28 = .ok (.iconst 0, 1) := by decide +kernel
theorem dX0_buildPieces_29 : decode cX0_buildPieces 29 = .ok (.istore 7, 2) := by decide +kernel
theorem dX0_buildPieces_31 : decode cX0_buildPieces 31 = .ok (.iload 7, 2) := by decide +kernel
theorem dX0_buildPieces_33 : decode cX0_buildPieces 33 = .ok (.bipush 16, 2) := by decide +kernel
theorem dX0_buildPieces_35 : decode cX0_buildPieces 35 = .ok (.if_icmp .ge 116, 3) := by decide +kernel
theorem dX0_buildPieces_38 : decode cX0_buildPieces 38 = .ok (.iload 6, 2) := by decide +kernel
theorem dX0_buildPieces_40 : decode cX0_buildPieces 40 = .ok (.ifCond .eq 38, 3) := by decide +kernel
theorem dX0_buildPieces_43 : decode cX0_buildPieces 43 = .ok (.aload_n 0, 1) := by decide +kernel
theorem dX0_buildPieces_44 : decode cX0_buildPieces 44 = .ok (.getfield 43, 3) := by decide +kernel
theorem dX0_buildPieces_47 : decode cX0_buildPieces 47 = .ok (.aload_n 0, 1) := by decide +kernel
theorem dX0_buildPieces_48 : decode cX0_buildPieces 48 = .ok (.getfield 36, 3) := by decide +kernel
theorem dX0_buildPieces_51 : decode cX0_buildPieces 51 = .ok (.iload_n 1, 1) := by decide +kernel
theorem dX0_buildPieces_52 : decode cX0_buildPieces 52 = .ok (.iload 7, 2) := by decide +kernel
theorem dX0_buildPieces_54 : decode cX0_buildPieces 54 = .ok (.aload_n 0, 1) := by decide +kernel
theorem dX0_buildPieces_55 : decode cX0_buildPieces 55 = .ok (.getfield 36, 3) := by decide +kernel
theorem dX0_buildPieces_58 : decode cX0_buildPieces 58 = .ok (.getfield 356, 3) := by decide +kernel
theorem dX0_buildPieces_61 : decode cX0_buildPieces 61 = .ok (.bipush 16, 2) := by decide +kernel
theorem dX0_buildPieces_63 : decode cX0_buildPieces 63 = .ok (.iload_n 1, 1) := by decide +kernel
theorem dX0_buildPieces_64 : decode cX0_buildPieces 64 = .ok (.imul, 1) := by decide +kernel
theorem dX0_buildPieces_65 : decode cX0_buildPieces 65 = .ok (.iload 7, 2) := by decide +kernel
theorem dX0_buildPieces_67 : decode cX0_buildPieces 67 = .ok (.iadd, 1) := by decide +kernel
theorem dX0_buildPieces_68 : decode cX0_buildPieces 68 = .ok (.iaload, 1) := by decide +kernel
theorem dX0_buildPieces_69 : decode cX0_buildPieces 69 = .ok (.iload 7, 2) := by decide +kernel
theorem dX0_buildPieces_71 : decode cX0_buildPieces 71 = .ok (.iload_n 3, 1) := by decide +kernel
theorem dX0_buildPieces_72 : decode cX0_buildPieces 72 = .ok (.invokestatic 365, 3) := by decide +kernel
theorem dX0_buildPieces_75 : decode cX0_buildPieces 75 = .ok (.invokevirtual 504, 3) := by decide +kernel
theorem dX0_buildPieces_78 : decode cX0_buildPieces 78 = .ok (.iload 4, 2) := by decide +kernel
theorem dX0_buildPieces_80 : decode cX0_buildPieces 80 = .ok (.ifCond .ne 50, 3) := by decide +kernel
theorem dX0_buildPieces_83 : decode cX0_buildPieces 83 = .ok (.aload_n 0, 1) := by decide +kernel
theorem dX0_buildPieces_84 : decode cX0_buildPieces 84 = .ok (.getfield 43, 3) := by decide +kernel
theorem dX0_buildPieces_87 : decode cX0_buildPieces 87 = .ok (.aload_n 0, 1) := by decide +kernel
theorem dX0_buildPieces_88 : decode cX0_buildPieces 88 = .ok (.getfield 36, 3) := by decide +kernel
theorem dX0_buildPieces_91 : decode cX0_buildPieces 91 = .ok (.aload_n 0, 1) := by decide +kernel
theorem dX0_buildPieces_92 : decode cX0_buildPieces 92 = .ok (.getfield 69, 3) := by decide +kernel
theorem dX0_buildPieces_95 : decode cX0_buildPieces 95 = .ok (.iconst 0, 1) := by decide +kernel
theorem dX0_buildPieces_96 : decode cX0_buildPieces 96 = .ok (.aaload, 1) := by decide +kernel
theorem dX0_buildPieces_97 : decode cX0_buildPieces 97 = .ok (.iload_n 1, 1) := by decide +kernel
theorem dX0_buildPieces_98 : decode cX0_buildPieces 98 = .ok (.iload 7, 2) := by decide +kernel
theorem dX0_buildPieces_100 : decode cX0_buildPieces 100 = .ok (.iload_n 2, 1) := by decide +kernel
theorem dX0_buildPieces_101 : decode cX0_buildPieces 101 = .ok (.iload 6, 2) := by decide +kernel
theorem dX0_buildPieces_103 : decode cX0_buildPieces 103 = .ok (.invokevirtual 508, 3) := by decide +kernel
theorem dX0_buildPieces_106 : decode cX0_buildPieces 106 = .ok (.ifCond .le 24, 3) := by decide +kernel
theorem dX0_buildPieces_109 : decode cX0_buildPieces 109 = .ok (.aload_n 0, 1) := by decide +kernel
theorem dX0_buildPieces_110 : decode cX0_buildPieces 110 = .ok (.getfield 36, 3) := by decide +kernel
theorem dX0_buildPieces_113 : decode cX0_buildPieces 113 = .ok (.getfield 216, 3) := by decide +kernel
theorem dX0_buildPieces_116 : decode cX0_buildPieces 116 = .ok (.iload 5, 2) := by decide +kernel
theorem dX0_buildPieces_118 : decode cX0_buildPieces 118 = .ok (.iconst 3, 1) := by decide +kernel
theorem dX0_buildPieces_119 : decode cX0_buildPieces 119 = .ok (.iadd, 1) := by decide +kernel
theorem dX0_buildPieces_120 : decode cX0_buildPieces 120 = .ok (.dup2, 1) := by decide +kernel
theorem dX0_buildPieces_121 : decode cX0_buildPieces 121 = .ok (.iaload, 1) := by decide +kernel
theorem dX0_buildPieces_122 : decode cX0_buildPieces 122 = .ok (.iconst 1, 1) := by decide +kernel
theorem dX0_buildPieces_123 : decode cX0_buildPieces 123 = .ok (.iload 7, 2) := by decide +kernel
theorem dX0_buildPieces_125 : decode cX0_buildPieces 125 = .ok (.iconst 4, 1) := by decide +kernel
theorem dX0_buildPieces_126 : decode cX0_buildPieces 126 = .ok (.idiv, 1) := by decide +kernel
theorem dX0_buildPieces_127 : decode cX0_buildPieces 127 = .ok (.ishl, 1) := by decide +kernel
theorem dX0_buildPieces_128 : decode cX0_buildPieces 128 = .ok (.ior, 1) := by decide +kernel
theorem dX0_buildPieces_129 : decode cX0_buildPieces 129 = .ok (.iastore, 1) := by decide +kernel
theorem dX0_buildPieces_130 : decode cX0_buildPieces 130 = .ok (.aload_n 0, 1) := by decide +kernel
theorem dX0_buildPieces_131 : decode cX0_buildPieces 131 = .ok (.getfield 43, 3) := by decide +kernel
theorem dX0_buildPieces_134 : decode cX0_buildPieces 134 = .ok (.aload_n 0, 1) := by decide +kernel
theorem dX0_buildPieces_135 : decode cX0_buildPieces 135 = .ok (.getfield 36, 3) := by decide +kernel
theorem dX0_buildPieces_138 : decode cX0_buildPieces 138 = .ok (.iload_n 1, 1) := by decide +kernel
theorem dX0_buildPieces_139 : decode cX0_buildPieces 139 = .ok (.iload 7, 2) := by decide +kernel
theorem dX0_buildPieces_141 : decode cX0_buildPieces 141 = .ok (.iload_n 2, 1) := by decide +kernel
theorem dX0_buildPieces_142 : decode cX0_buildPieces 142 = .ok (.invokevirtual 512, 3) := by decide +kernel
theorem dX0_buildPieces_145 : decode cX0_buildPieces 145 = .ok (.iinc 7 1, 3) := by decide +kernel
theorem dX0_buildPieces_148 : decode cX0_buildPieces 148 = .ok (.goto (-117), 3) := by decide +kernel
theorem dX0_buildPieces_151 : decode cX0_buildPieces 151 = .ok (.return_, 1) := by decide +kernel
def FX0_buildPieces (G : GG) (M : DD) (a : Nat) (p0 : Int32) (p1 : Int32) (p2 : Int32) (p3 : Int32) : Option (DD) :=
  ltt ((((8 : Int32)) * p0)) fun x1 =>
  dr G 9 ((M.2 a 3)) fun b2 =>
  ltt ((x1 + ((0 : Int32)))) fun x3 =>
  dr G 13 ((M.2 b2 6)) fun b4 =>
  chk (¬ (x3 < 0 ∨ G.2.2 b4 ≤ x3.toNatClampNeg)) <|
  ltt (M.1 b4 x3.toNatClampNeg) fun x5 =>
  bnd (if x5 = ((0 : Int32)) then (some ((1 : Int32))) else
  (some ((0 : Int32)))) fun (y6 : Int32) =>
  bnd (itr (fun (s8 : Int32 × DD) => ((if ((16 : Int32)) ≤ s8.1 then (some (.inr (s8.1, s8.2))) else
  (bnd (if y6 = ((0 : Int32)) then (some (s8.2)) else
  (dr G 9 ((s8.2.2 a 3)) fun b32 =>
  ltt ((((16 : Int32)) * p0)) fun x33 =>
  ltt ((x33 + s8.1)) fun x34 =>
  dr G 13 ((s8.2.2 b32 7)) fun b35 =>
  chk (¬ (x34 < 0 ∨ G.2.2 b35 ≤ x34.toNatClampNeg)) <|
  ltt (s8.2.1 b35 x34.toNatClampNeg) fun x36 =>
  bnd (FX9_sidesOf G s8.2 s8.1 p2) fun y37 =>
  dr G 6 ((s8.2.2 a 4)) fun b38 =>
  bnd (FX6_predictFour G y37.1 b38 (some b32) p0 s8.1 x36 y37.2) fun y39 =>
  some (y39))) fun (y12 : DD) =>
  bnd (if p3 = ((0 : Int32)) then (dr G 15 ((y12.2 a 9)) fun b18 =>
  chk (¬ (((0 : Int32)) < 0 ∨ G.2.2 b18 ≤ ((0 : Int32)).toNatClampNeg)) <|
  dr G 6 ((y12.2 a 4)) fun b19 =>
  bnd (FX6_measureLuma G y12 b19 ((y12.2 a 3)) ((y12.2 b18 ((0 : Int32)).toNatClampNeg)) p0 s8.1 p1 y6) fun y20 =>
  bnd (if y20.2 ≤ ((0 : Int32)) then (some (y20.1)) else
  (dr G 9 ((y20.1.2 a 3)) fun b23 =>
  ltt ((x1 + ((3 : Int32)))) fun x24 =>
  dr G 13 ((y20.1.2 b23 6)) fun b25 =>
  chk (¬ (x24 < 0 ∨ G.2.2 b25 ≤ x24.toNatClampNeg)) <|
  ltt (y20.1.1 b25 x24.toNatClampNeg) fun x26 =>
  ltt (s8.1 / ((4 : Int32))) fun x27 =>
  ltt ((((1 : Int32)) <<< (x27 &&& 31))) fun x28 =>
  ltt ((x26 ||| x28)) fun x29 =>
  chk (¬ (x24 < 0 ∨ G.2.2 b25 ≤ x24.toNatClampNeg)) <|
  ltt (uI y20.1 b25 x24.toNatClampNeg x29) fun M30 =>
  some (M30))) fun (y21 : DD) =>
  some (y21)) else
  (some (y12))) fun (y13 : DD) =>
  dr G 6 ((y13.2 a 4)) fun b14 =>
  bnd (FX6_fillLuma G y13 b14 ((y13.2 a 3)) p0 s8.1 p1) fun y15 =>
  ltt (s8.1 + (1 : Int32)) fun x16 =>
  some (.inl (x16, y15)))) : Option ((Int32 × DD) ⊕ (Int32 × DD)))) 1000000 ((0 : Int32), M)) fun (y7 : Int32 × DD) =>
  some y7.2
set_option maxHeartbeats 4000000 in
set_option maxRecDepth 100000 in
theorem kX0_buildPieces (l : Launch) (D : va_G) (ct : CT) (ad : Nat → Nat) (Z : Nat → Nat) (G : GG) (M : DD) (sz : Nat) (a : Nat) (p0 : Int32) (p1 : Int32) (p2 : Int32) (p3 : Int32) (y : DD) (hc : a < G.1) (hk : G.2.1 a = 0) (hF : FX0_buildPieces G M a p0 p1 p2 p3 = some y) : Met l yX0_buildPieces wsX0_buildPieces ({ frames := 3, cells := 0, slots := 0, locals := 83 }) (va_Pc [.ref (ad a), .int p0, .int p1, .int p2, .int p3] (kB D ct ad Z G M sz)) (va_Qv (fun (_ : Unit) => True) (fun _ t => kE D ct ad G (wA ad G sz) y t) (wA ad G sz)) 0 0 (wA ad G sz) := by
  refine Met.ofW (cc := cX0_buildPieces) (maxL := 8) (ret := none) (by decide) rfl ?_
  intro p e s m args below meth c s₁ B hml hv
  obtain ⟨rfl, hsz, hP, hK, hD0, hZ, hN⟩ := hv
  have hx := B.exec
  have hb := B.bytes
  have hr := B.returns
  have hts := atoms_spec (ws := wsX0_buildPieces) B.pre
  have hown : s.vm.findClass RX0 = some m.cls := findClass_of_methodNamed B.named
  have hlocks := B.notSynchronized
  subst hsz
  have hD := wD_self (sz := s.heap.size) hD0
  have hA9 : ∀ q, s.heap.size ≤ q → wA ad G s.heap.size q := fun q h => Or.inr h
  generalize hAe : wA ad G s.heap.size = A at hD hA9 hZ ⊢
  have hS : va_S A s.heap s.heap [] := va_S.rf
  have hl := lv_entry ([.ref (ad a), .int p0, .int p1, .int p2, .int p3]) (n := 8) (Nat.le_of_ble_eq_true rfl)
  rw [lg_entry_eq]
  generalize (lg_sl ([.ref (ad a), .int p0, .int p1, .int p2, .int p3]) ++ List.replicate (8 - (lg_sl ([.ref (ad a), .int p0, .int p1, .int p2, .int p3])).length) Slot.unset).toArray = ls at hl ⊢
  have hl : lv_has ls 8 [(0, .ref (ad a)), (1, .int p0), (2, .int p1), (3, .int p2), (4, .int p3)] := hl
  unfold FX0_buildPieces at hF
  refine lv_bipush (v := (8 : Int32)) hx hb dX0_buildPieces_0 (by decide) ?_
  refine lv_iload_n hx hb dX0_buildPieces_2 rfl (lv_at hl 1 rfl) ?_
  refine lv_imul hx hb dX0_buildPieces_3 ?_
  obtain ⟨x1, ex1, hF⟩ := ltt_some hF
  refine lv_topi (fun zx1 ezx1 => ?_)
  obtain rfl : x1 = zx1 := ex1.trans ezx1.symm
  refine lv_istore (lv' := [(5, .int x1), (0, .ref (ad a)), (1, .int p0), (2, .int p1), (3, .int p2), (4, .int p3)]) hx hb dX0_buildPieces_4 hl (by decide) rfl (fun ls hl => ?_)
  refine lv_aload_n hx hb dX0_buildPieces_6 rfl (lv_at hl 1 rfl) ?_
  refine va_get (D := D) (ci := 0) (v := va_re ad (M.2 a 3)) (C := RX0) (T := TX0) (N := 21) hx hb hts (by decide +kernel) hown hK hP a (wld_o ct ad G M hc hk (by decide)) rfl 3 (by decide) (hts (.fieldLink RX0 36 "VideoSuite$Coder" "work" "LVideoSuite$Work;") (by decide +kernel)) (fun _ h9 => h9) rfl dX0_buildPieces_7 ?_
  obtain ⟨b2, ho2, hc2, hk2, hF⟩ := dr_some hF
  refine W_st (st' := [.ref (ad b2)]) (by rw [va_some ho2]) ?_
  refine va_get (D := D) (ci := 9) (v := va_re ad (M.2 b2 6)) (C := RX9) (T := TX9) (N := 20) hx hb hts (by decide +kernel) hown hK hP b2 (wld_o ct ad G M hc2 hk2 (by decide)) rfl 6 (by decide) (hts (.fieldLink RX0 216 "VideoSuite$Work" "info" "[I") (by decide +kernel)) (fun _ h9 => h9) rfl dX0_buildPieces_10 ?_
  refine lv_iload hx hb dX0_buildPieces_13 (lv_at hl 0 rfl) ?_
  refine lv_iconst (v := (0 : Int32)) hx hb dX0_buildPieces_15 (by decide) ?_
  refine lv_iadd hx hb dX0_buildPieces_16 ?_
  obtain ⟨x3, ex3, hF⟩ := ltt_some hF
  refine lv_topi (fun zx3 ezx3 => ?_)
  obtain rfl : x3 = zx3 := ex3.trans ezx3.symm
  obtain ⟨b4, ho4, hc4, hk4, hF⟩ := dr_some hF
  refine W_st (st' := [.int x3, .ref (ad b4)]) (by rw [va_some ho4]) ?_
  obtain ⟨hvc, hF⟩ := chk_some hF
  refine va_iald hx hb hK hP b4 1 (wld_i ct ad G M hc4 hk4) rfl hvc dX0_buildPieces_17 ?_
  obtain ⟨x5, ex5, hF⟩ := ltt_some hF
  refine lv_topi (fun zx5 ezx5 => ?_)
  obtain rfl : x5 = zx5 := ex5.trans ezx5.symm
  obtain ⟨y6, hy6, hF⟩ := bnd_some hF
  have J6 : ∀ (H : Heap) (locs : List Loc) (ls : Array Slot), va_P D classes (wld ct ad G M) H → va_D A (wld ct ad G M) → va_S A s.heap H locs → lv_has ls 8 [(5, .int x1), (0, .ref (ad a)), (1, .int p0), (2, .int p1), (3, .int p2), (4, .int p3)] → W p l e (headSpec wsX0_buildPieces ({ frames := 3, cells := 0, slots := 0, locals := 83 })).room s m ([.ref (ad a), .int p0, .int p1, .int p2, .int p3] : List Value).toArray below meth c H locs 0 0 (MQ below (va_Qv (fun (_ : Unit) => True) (fun _ t => kE D ct ad G A y t) A) ([.ref (ad a), .int p0, .int p1, .int p2, .int p3] : List Value).toArray s 0 0 A) (F0 m 26 ls [.int y6]) := by
    intro H locs ls hP hD hS hl
    refine lv_istore (lv' := [(6, .int y6), (5, .int x1), (0, .ref (ad a)), (1, .int p0), (2, .int p1), (3, .int p2), (4, .int p3)]) hx hb dX0_buildPieces_26 hl (by decide) rfl (fun ls hl => ?_)
    refine lv_iconst (v := (0 : Int32)) hx hb dX0_buildPieces_28 (by decide) ?_
    refine lv_istore (lv' := [(7, .int (0 : Int32)), (6, .int y6), (5, .int x1), (0, .ref (ad a)), (1, .int p0), (2, .int p1), (3, .int p2), (4, .int p3)]) hx hb dX0_buildPieces_29 hl (by decide) rfl (fun ls hl => ?_)
    obtain ⟨y7, hy7, hF⟩ := bnd_some hF
    have K7 : ∀ (H : Heap) (locs : List Loc) (ls : Array Slot), va_P D classes (wld ct ad G y7.2) H → va_D A (wld ct ad G y7.2) → va_S A s.heap H locs → lv_has ls 8 [(7, .int y7.1), (6, .int y6), (5, .int x1), (0, .ref (ad a)), (1, .int p0), (2, .int p1), (3, .int p2), (4, .int p3)] → W p l e (headSpec wsX0_buildPieces ({ frames := 3, cells := 0, slots := 0, locals := 83 })).room s m ([.ref (ad a), .int p0, .int p1, .int p2, .int p3] : List Value).toArray below meth c H locs 0 0 (MQ below (va_Qv (fun (_ : Unit) => True) (fun _ t => kE D ct ad G A y t) A) ([.ref (ad a), .int p0, .int p1, .int p2, .int p3] : List Value).toArray s 0 0 A) (F0 m 151 ls []) := by
      intro H locs ls hP hD hS hl
      obtain rfl := Option.some.inj hF
      exact W.vret hx hb hr (fun t ht hW => ⟨⟨(), rfl, trivial, ⟨by rw [ht]; exact hP, va_K.moved hW.alike hK, hD⟩⟩, hS.F ht⟩) hS.2.2 dX0_buildPieces_151
    clear hF
    refine itr_rule (fun (s8 : Int32 × DD) => ∀ (H : Heap) (locs : List Loc) (ls : Array Slot), va_P D classes (wld ct ad G s8.2) H → va_D A (wld ct ad G s8.2) → va_S A s.heap H locs → lv_has ls 8 [(7, .int s8.1), (6, .int y6), (5, .int x1), (0, .ref (ad a)), (1, .int p0), (2, .int p1), (3, .int p2), (4, .int p3)] → W p l e (headSpec wsX0_buildPieces ({ frames := 3, cells := 0, slots := 0, locals := 83 })).room s m ([.ref (ad a), .int p0, .int p1, .int p2, .int p3] : List Value).toArray below meth c H locs 0 0 (MQ below (va_Qv (fun (_ : Unit) => True) (fun _ t => kE D ct ad G A y t) A) ([.ref (ad a), .int p0, .int p1, .int p2, .int p3] : List Value).toArray s 0 0 A) (F0 m 31 ls [])) ?_ _ _ hy7 _ _ _ hP hD hS (lv_sub hl [0, 1, 2, 3, 4, 5, 6, 7] rfl)
    rintro s8 ⟨z10, hF, hwz10⟩ H locs ls hP hD hS hl
    try dsimp only at hF
    refine lv_iload hx hb dX0_buildPieces_31 (lv_at hl 0 rfl) ?_
    refine lv_bipush (v := (16 : Int32)) hx hb dX0_buildPieces_33 (by decide) ?_
    refine lv_icmp_ge (tgt := 151) hx hb dX0_buildPieces_35 (by decide) (fun c11 => ?_) (fun c11 => ?_)
    · rw [if_pos c11] at hF
      obtain rfl := Option.some.inj hF
      subst hwz10
      exact K7 _ _ _ hP hD hS (lv_sub hl [0, 1, 2, 3, 4, 5, 6, 7] rfl)
    · rw [if_neg c11] at hF
      refine lv_iload hx hb dX0_buildPieces_38 (lv_at hl 1 rfl) ?_
      obtain ⟨y12, hy12, hF⟩ := bnd_some hF
      have J12 : ∀ (H : Heap) (locs : List Loc) (ls : Array Slot), va_P D classes (wld ct ad G y12) H → va_D A (wld ct ad G y12) → va_S A s.heap H locs → lv_has ls 8 [(7, .int s8.1), (6, .int y6), (5, .int x1), (0, .ref (ad a)), (1, .int p0), (2, .int p1), (3, .int p2), (4, .int p3)] → W p l e (headSpec wsX0_buildPieces ({ frames := 3, cells := 0, slots := 0, locals := 83 })).room s m ([.ref (ad a), .int p0, .int p1, .int p2, .int p3] : List Value).toArray below meth c H locs 0 0 (MQ below (va_Qv (fun (_ : Unit) => True) (fun _ t => kE D ct ad G A y t) A) ([.ref (ad a), .int p0, .int p1, .int p2, .int p3] : List Value).toArray s 0 0 A) (F0 m 78 ls []) := by
        intro H locs ls hP hD hS hl
        refine lv_iload hx hb dX0_buildPieces_78 (lv_at hl 7 rfl) ?_
        obtain ⟨y13, hy13, hF⟩ := bnd_some hF
        have J13 : ∀ (H : Heap) (locs : List Loc) (ls : Array Slot), va_P D classes (wld ct ad G y13) H → va_D A (wld ct ad G y13) → va_S A s.heap H locs → lv_has ls 8 [(7, .int s8.1), (6, .int y6), (5, .int x1), (0, .ref (ad a)), (1, .int p0), (2, .int p1), (3, .int p2), (4, .int p3)] → W p l e (headSpec wsX0_buildPieces ({ frames := 3, cells := 0, slots := 0, locals := 83 })).room s m ([.ref (ad a), .int p0, .int p1, .int p2, .int p3] : List Value).toArray below meth c H locs 0 0 (MQ below (va_Qv (fun (_ : Unit) => True) (fun _ t => kE D ct ad G A y t) A) ([.ref (ad a), .int p0, .int p1, .int p2, .int p3] : List Value).toArray s 0 0 A) (F0 m 130 ls []) := by
          intro H locs ls hP hD hS hl
          refine lv_aload_n hx hb dX0_buildPieces_130 rfl (lv_at hl 3 rfl) ?_
          refine va_get (D := D) (ci := 0) (v := va_re ad (y13.2 a 4)) (C := RX0) (T := TX0) (N := 21) hx hb hts (by decide +kernel) hown hK hP a (wld_o ct ad G y13 hc hk (by decide)) rfl 4 (by decide) (hts (.fieldLink RX0 43 "VideoSuite$Coder" "samples" "LVideoSuite$Samples;") (by decide +kernel)) (fun _ h9 => h9) rfl dX0_buildPieces_131 ?_
          refine lv_aload_n hx hb dX0_buildPieces_134 rfl (lv_at hl 3 rfl) ?_
          refine va_get (D := D) (ci := 0) (v := va_re ad (y13.2 a 3)) (C := RX0) (T := TX0) (N := 21) hx hb hts (by decide +kernel) hown hK hP a (wld_o ct ad G y13 hc hk (by decide)) rfl 3 (by decide) (hts (.fieldLink RX0 36 "VideoSuite$Coder" "work" "LVideoSuite$Work;") (by decide +kernel)) (fun _ h9 => h9) rfl dX0_buildPieces_135 ?_
          refine lv_iload_n hx hb dX0_buildPieces_138 rfl (lv_at hl 4 rfl) ?_
          refine lv_iload hx hb dX0_buildPieces_139 (lv_at hl 0 rfl) ?_
          refine lv_iload_n hx hb dX0_buildPieces_141 rfl (lv_at hl 5 rfl) ?_
          obtain ⟨b14, ho14, hc14, hk14, hF⟩ := dr_some hF
          refine W_st (st' := [.int p1, .int s8.1, .int p0, va_re ad (y13.2 a 3), .ref (ad b14)]) (by rw [va_some ho14]) ?_
          obtain ⟨y15, hy15, hF⟩ := bnd_some hF
          have hf9 := wA_in hD hA9 hS
          refine va_callv (va_runV (As := [va_re ad (y13.2 a 3), .int p0, .int s8.1, .int p1]) (rest := []) ⟨hx, hb, hml, hown, hts⟩ (kX6_fillLuma l D ct ad Z G y13 H.size b14 ((y13.2 a 3)) p0 s8.1 p1 y15 hc14 hk14 hy15) (cwV 4 hts gX0_buildPieces_X6_fillLuma rfl rfl rfl (by decide +kernel) ⟨Nat.le_of_ble_eq_true rfl, Nat.le_of_ble_eq_true rfl⟩) ⟨fun a U g mk q => by obtain ⟨q0, q1, qP, qK, qD, qZ, qN⟩ := q; exact ⟨q0, q1, qP, va_K.moved (u := U) (U := U.calling g mk a) (Vm.Alike.refl U.vm) qK, qD, sF.moved (u := U) (U := U.calling g mk a) (Vm.Alike.refl U.vm) qZ, nF.same rfl qN⟩, va_recv hK hP (ci := 6) (q0 := b14) rfl (wld_o ct ad G y13 hc14 hk14 (by decide)), fun U hU hW => ⟨rfl, by rw [hU], by rw [hU]; exact hP, va_K.moved hW.alike hK, hD.weaken (fun _ _ _ _ => trivial), by rw [hU]; exact ((hZ.kept hS.2.1).narrow hf9).moved hW.alike, hN.warm hW⟩⟩ rfl rfl hl.1 rfl (lv_room (Nat.le_of_ble_eq_true rfl)) dX0_buildPieces_142 ⟨(Nat.zero_le _), (Nat.zero_le _)⟩) hS (fun q _ h => hf9 q h) hf9 (fun u t H locs ht hvm hw hB hz1 hk1 hS => ?_)
          obtain ⟨hP, hK9, hD9⟩ := hB
          rw [ht] at hP
          have hD := hD9.weaken (fun _ q _ h => hf9 q.1 h)
          obtain ⟨x16, ex16, hF⟩ := ltt_some hF
          refine lv_iinc (v := x16) (lv' := [(7, .int x16), (6, .int y6), (5, .int x1), (0, .ref (ad a)), (1, .int p0), (2, .int p1), (3, .int p2), (4, .int p3)]) hx hb dX0_buildPieces_145 hl (k := 0) rfl (by rw [ex16]; rfl) (by decide) rfl (fun ls hl => ?_)
          refine lv_goto (tgt := 31) hx hb dX0_buildPieces_148 (by decide) ?_
          obtain rfl := Option.some.inj hF
          exact hwz10 _ _ _ hP hD hS (lv_sub hl [0, 1, 2, 3, 4, 5, 6, 7] rfl)
        clear hF
        have hF := hy13
        clear hy13
        refine lv_if_ne (tgt := 130) hx hb dX0_buildPieces_80 (by decide) (fun c17 => ?_) (fun c17 => ?_)
        · rw [if_neg c17] at hF
          obtain rfl := Option.some.inj hF
          exact J13 _ _ _ hP hD hS (lv_sub hl [0, 1, 2, 3, 4, 5, 6, 7] rfl)
        · rw [if_pos c17] at hF
          refine lv_aload_n hx hb dX0_buildPieces_83 rfl (lv_at hl 3 rfl) ?_
          refine va_get (D := D) (ci := 0) (v := va_re ad (y12.2 a 4)) (C := RX0) (T := TX0) (N := 21) hx hb hts (by decide +kernel) hown hK hP a (wld_o ct ad G y12 hc hk (by decide)) rfl 4 (by decide) (hts (.fieldLink RX0 43 "VideoSuite$Coder" "samples" "LVideoSuite$Samples;") (by decide +kernel)) (fun _ h9 => h9) rfl dX0_buildPieces_84 ?_
          refine lv_aload_n hx hb dX0_buildPieces_87 rfl (lv_at hl 3 rfl) ?_
          refine va_get (D := D) (ci := 0) (v := va_re ad (y12.2 a 3)) (C := RX0) (T := TX0) (N := 21) hx hb hts (by decide +kernel) hown hK hP a (wld_o ct ad G y12 hc hk (by decide)) rfl 3 (by decide) (hts (.fieldLink RX0 36 "VideoSuite$Coder" "work" "LVideoSuite$Work;") (by decide +kernel)) (fun _ h9 => h9) rfl dX0_buildPieces_88 ?_
          refine lv_aload_n hx hb dX0_buildPieces_91 rfl (lv_at hl 3 rfl) ?_
          refine va_get (D := D) (ci := 0) (v := va_re ad (y12.2 a 9)) (C := RX0) (T := TX0) (N := 21) hx hb hts (by decide +kernel) hown hK hP a (wld_o ct ad G y12 hc hk (by decide)) rfl 9 (by decide) (hts (.fieldLink RX0 69 "VideoSuite$Coder" "source" "[[I") (by decide +kernel)) (fun _ h9 => h9) rfl dX0_buildPieces_92 ?_
          refine lv_iconst (v := (0 : Int32)) hx hb dX0_buildPieces_95 (by decide) ?_
          obtain ⟨b18, ho18, hc18, hk18, hF⟩ := dr_some hF
          refine W_st (st' := [.int (0 : Int32), .ref (ad b18), va_re ad (y12.2 a 3), va_re ad (y12.2 a 4)]) (by rw [va_some ho18]) ?_
          obtain ⟨hvc, hF⟩ := chk_some hF
          refine ld_g hx hb hK hP hc18 hk18 hvc dX0_buildPieces_96 ?_
          refine lv_iload_n hx hb dX0_buildPieces_97 rfl (lv_at hl 4 rfl) ?_
          refine lv_iload hx hb dX0_buildPieces_98 (lv_at hl 0 rfl) ?_
          refine lv_iload_n hx hb dX0_buildPieces_100 rfl (lv_at hl 5 rfl) ?_
          refine lv_iload hx hb dX0_buildPieces_101 (lv_at hl 1 rfl) ?_
          obtain ⟨b19, ho19, hc19, hk19, hF⟩ := dr_some hF
          refine W_st (st' := [.int y6, .int p1, .int s8.1, .int p0, va_re ad (y12.2 b18 ((0 : Int32)).toNatClampNeg), va_re ad (y12.2 a 3), .ref (ad b19)]) (by rw [va_some ho19]) ?_
          obtain ⟨y20, hy20, hF⟩ := bnd_some hF
          have hf9 := wA_in hD hA9 hS
          refine va_calli (va_runV (As := [va_re ad (y12.2 a 3), va_re ad (y12.2 b18 ((0 : Int32)).toNatClampNeg), .int p0, .int s8.1, .int p1, .int y6]) (rest := []) ⟨hx, hb, hml, hown, hts⟩ (kX6_measureLuma l D ct ad Z G y12 H.size b19 ((y12.2 a 3)) ((y12.2 b18 ((0 : Int32)).toNatClampNeg)) p0 s8.1 p1 y6 y20 hc19 hk19 hy20) (cwV 6 hts gX0_buildPieces_X6_measureLuma rfl rfl rfl (by decide +kernel) ⟨Nat.le_of_ble_eq_true rfl, Nat.le_of_ble_eq_true rfl⟩) ⟨fun a U g mk q => by obtain ⟨q0, q1, qP, qK, qD, qZ, qN⟩ := q; exact ⟨q0, q1, qP, va_K.moved (u := U) (U := U.calling g mk a) (Vm.Alike.refl U.vm) qK, qD, sF.moved (u := U) (U := U.calling g mk a) (Vm.Alike.refl U.vm) qZ, nF.same rfl qN⟩, va_recv hK hP (ci := 6) (q0 := b19) rfl (wld_o ct ad G y12 hc19 hk19 (by decide)), fun U hU hW => ⟨rfl, by rw [hU], by rw [hU]; exact hP, va_K.moved hW.alike hK, hD.weaken (fun _ _ _ _ => trivial), by rw [hU]; exact ((hZ.kept hS.2.1).narrow hf9).moved hW.alike, hN.warm hW⟩⟩ rfl rfl hl.1 rfl (lv_room (Nat.le_of_ble_eq_true rfl)) dX0_buildPieces_103 ⟨(Nat.zero_le _), (Nat.zero_le _)⟩) hS (fun q _ h => hf9 q h) hf9 (fun r u t H locs ht hvm hw hB hz1 hk1 hS => ?_)
          obtain ⟨hP, hK9, hD9⟩ := hB
          rw [ht] at hP
          try dsimp only at hw
          subst hw
          have hD := hD9.weaken (fun _ q _ h => hf9 q.1 h)
          obtain ⟨y21, hy21, hF⟩ := bnd_some hF
          have J21 : ∀ (H : Heap) (locs : List Loc) (ls : Array Slot), va_P D classes (wld ct ad G y21) H → va_D A (wld ct ad G y21) → va_S A s.heap H locs → lv_has ls 8 [(7, .int s8.1), (6, .int y6), (5, .int x1), (0, .ref (ad a)), (1, .int p0), (2, .int p1), (3, .int p2), (4, .int p3)] → W p l e (headSpec wsX0_buildPieces ({ frames := 3, cells := 0, slots := 0, locals := 83 })).room s m ([.ref (ad a), .int p0, .int p1, .int p2, .int p3] : List Value).toArray below meth c H locs 0 0 (MQ below (va_Qv (fun (_ : Unit) => True) (fun _ t => kE D ct ad G A y t) A) ([.ref (ad a), .int p0, .int p1, .int p2, .int p3] : List Value).toArray s 0 0 A) (F0 m 130 ls []) := by
            intro H locs ls hP hD hS hl
            obtain rfl := Option.some.inj hF
            exact J13 _ _ _ hP hD hS (lv_sub hl [0, 1, 2, 3, 4, 5, 6, 7] rfl)
          clear hF
          have hF := hy21
          clear hy21
          refine lv_if_le (tgt := 130) hx hb dX0_buildPieces_106 (by decide) (fun c22 => ?_) (fun c22 => ?_)
          · rw [if_pos c22] at hF
            obtain rfl := Option.some.inj hF
            exact J21 _ _ _ hP hD hS (lv_sub hl [0, 1, 2, 3, 4, 5, 6, 7] rfl)
          · rw [if_neg c22] at hF
            refine lv_aload_n hx hb dX0_buildPieces_109 rfl (lv_at hl 3 rfl) ?_
            refine va_get (D := D) (ci := 0) (v := va_re ad (y20.1.2 a 3)) (C := RX0) (T := TX0) (N := 21) hx hb hts (by decide +kernel) hown hK hP a (wld_o ct ad G y20.1 hc hk (by decide)) rfl 3 (by decide) (hts (.fieldLink RX0 36 "VideoSuite$Coder" "work" "LVideoSuite$Work;") (by decide +kernel)) (fun _ h9 => h9) rfl dX0_buildPieces_110 ?_
            obtain ⟨b23, ho23, hc23, hk23, hF⟩ := dr_some hF
            refine W_st (st' := [.ref (ad b23)]) (by rw [va_some ho23]) ?_
            refine va_get (D := D) (ci := 9) (v := va_re ad (y20.1.2 b23 6)) (C := RX9) (T := TX9) (N := 20) hx hb hts (by decide +kernel) hown hK hP b23 (wld_o ct ad G y20.1 hc23 hk23 (by decide)) rfl 6 (by decide) (hts (.fieldLink RX0 216 "VideoSuite$Work" "info" "[I") (by decide +kernel)) (fun _ h9 => h9) rfl dX0_buildPieces_113 ?_
            refine lv_iload hx hb dX0_buildPieces_116 (lv_at hl 2 rfl) ?_
            refine lv_iconst (v := (3 : Int32)) hx hb dX0_buildPieces_118 (by decide) ?_
            refine lv_iadd hx hb dX0_buildPieces_119 ?_
            obtain ⟨x24, ex24, hF⟩ := ltt_some hF
            refine lv_topi (fun zx24 ezx24 => ?_)
            obtain rfl : x24 = zx24 := ex24.trans ezx24.symm
            refine lv_dup2_11 hx hb dX0_buildPieces_120 rfl (va_re_cat _ _) ?_
            obtain ⟨b25, ho25, hc25, hk25, hF⟩ := dr_some hF
            refine W_st (st' := [.int x24, .ref (ad b25), .int x24, .ref (ad b25)]) (by rw [va_some ho25]) ?_
            obtain ⟨hvc, hF⟩ := chk_some hF
            refine va_iald hx hb hK hP b25 1 (wld_i ct ad G y20.1 hc25 hk25) rfl hvc dX0_buildPieces_121 ?_
            obtain ⟨x26, ex26, hF⟩ := ltt_some hF
            refine lv_topi (fun zx26 ezx26 => ?_)
            obtain rfl : x26 = zx26 := ex26.trans ezx26.symm
            refine lv_iconst (v := (1 : Int32)) hx hb dX0_buildPieces_122 (by decide) ?_
            refine lv_iload hx hb dX0_buildPieces_123 (lv_at hl 0 rfl) ?_
            refine lv_iconst (v := (4 : Int32)) hx hb dX0_buildPieces_125 (by decide) ?_
            refine lv_idiv hx hb dX0_buildPieces_126 (by decide) ?_
            obtain ⟨x27, ex27, hF⟩ := ltt_some hF
            refine lv_topi (fun zx27 ezx27 => ?_)
            obtain rfl : x27 = zx27 := ex27.trans ezx27.symm
            refine lv_ishl hx hb dX0_buildPieces_127 ?_
            obtain ⟨x28, ex28, hF⟩ := ltt_some hF
            refine lv_topi (fun zx28 ezx28 => ?_)
            obtain rfl : x28 = zx28 := ex28.trans ezx28.symm
            refine lv_ior hx hb dX0_buildPieces_128 ?_
            obtain ⟨x29, ex29, hF⟩ := ltt_some hF
            refine lv_topi (fun zx29 ezx29 => ?_)
            obtain rfl : x29 = zx29 := ex29.trans ezx29.symm
            obtain ⟨hvc, hF⟩ := chk_some hF
            refine va_iast hx hb hK hP hD hS b25 1 (wld_i ct ad G y20.1 hc25 hk25) rfl hvc dX0_buildPieces_129 (fun H locs hP hD hS => ?_)
            obtain ⟨M30, eM30, hF⟩ := ltt_some hF
            rw [set_i ct ad G y20.1 hc25 hk25, ← eM30] at hP hD
            obtain rfl := Option.some.inj hF
            exact J21 _ _ _ hP hD hS (lv_sub hl [0, 1, 2, 3, 4, 5, 6, 7] rfl)
      clear hF
      have hF := hy12
      clear hy12
      refine lv_if_eq (tgt := 78) hx hb dX0_buildPieces_40 (by decide) (fun c31 => ?_) (fun c31 => ?_)
      · rw [if_pos c31] at hF
        obtain rfl := Option.some.inj hF
        exact J12 _ _ _ hP hD hS (lv_sub hl [0, 1, 2, 3, 4, 5, 6, 7] rfl)
      · rw [if_neg c31] at hF
        refine lv_aload_n hx hb dX0_buildPieces_43 rfl (lv_at hl 3 rfl) ?_
        refine va_get (D := D) (ci := 0) (v := va_re ad (s8.2.2 a 4)) (C := RX0) (T := TX0) (N := 21) hx hb hts (by decide +kernel) hown hK hP a (wld_o ct ad G s8.2 hc hk (by decide)) rfl 4 (by decide) (hts (.fieldLink RX0 43 "VideoSuite$Coder" "samples" "LVideoSuite$Samples;") (by decide +kernel)) (fun _ h9 => h9) rfl dX0_buildPieces_44 ?_
        refine lv_aload_n hx hb dX0_buildPieces_47 rfl (lv_at hl 3 rfl) ?_
        refine va_get (D := D) (ci := 0) (v := va_re ad (s8.2.2 a 3)) (C := RX0) (T := TX0) (N := 21) hx hb hts (by decide +kernel) hown hK hP a (wld_o ct ad G s8.2 hc hk (by decide)) rfl 3 (by decide) (hts (.fieldLink RX0 36 "VideoSuite$Coder" "work" "LVideoSuite$Work;") (by decide +kernel)) (fun _ h9 => h9) rfl dX0_buildPieces_48 ?_
        refine lv_iload_n hx hb dX0_buildPieces_51 rfl (lv_at hl 4 rfl) ?_
        refine lv_iload hx hb dX0_buildPieces_52 (lv_at hl 0 rfl) ?_
        refine lv_aload_n hx hb dX0_buildPieces_54 rfl (lv_at hl 3 rfl) ?_
        refine va_get (D := D) (ci := 0) (v := va_re ad (s8.2.2 a 3)) (C := RX0) (T := TX0) (N := 21) hx hb hts (by decide +kernel) hown hK hP a (wld_o ct ad G s8.2 hc hk (by decide)) rfl 3 (by decide) (hts (.fieldLink RX0 36 "VideoSuite$Coder" "work" "LVideoSuite$Work;") (by decide +kernel)) (fun _ h9 => h9) rfl dX0_buildPieces_55 ?_
        obtain ⟨b32, ho32, hc32, hk32, hF⟩ := dr_some hF
        refine W_st (st' := [.ref (ad b32), .int s8.1, .int p0, .ref (ad b32), va_re ad (s8.2.2 a 4)]) (by rw [va_some ho32]) ?_
        refine va_get (D := D) (ci := 9) (v := va_re ad (s8.2.2 b32 7)) (C := RX9) (T := TX9) (N := 20) hx hb hts (by decide +kernel) hown hK hP b32 (wld_o ct ad G s8.2 hc32 hk32 (by decide)) rfl 7 (by decide) (hts (.fieldLink RX0 356 "VideoSuite$Work" "mode" "[I") (by decide +kernel)) (fun _ h9 => h9) rfl dX0_buildPieces_58 ?_
        refine lv_bipush (v := (16 : Int32)) hx hb dX0_buildPieces_61 (by decide) ?_
        refine lv_iload_n hx hb dX0_buildPieces_63 rfl (lv_at hl 4 rfl) ?_
        refine lv_imul hx hb dX0_buildPieces_64 ?_
        obtain ⟨x33, ex33, hF⟩ := ltt_some hF
        refine lv_topi (fun zx33 ezx33 => ?_)
        obtain rfl : x33 = zx33 := ex33.trans ezx33.symm
        refine lv_iload hx hb dX0_buildPieces_65 (lv_at hl 0 rfl) ?_
        refine lv_iadd hx hb dX0_buildPieces_67 ?_
        obtain ⟨x34, ex34, hF⟩ := ltt_some hF
        refine lv_topi (fun zx34 ezx34 => ?_)
        obtain rfl : x34 = zx34 := ex34.trans ezx34.symm
        obtain ⟨b35, ho35, hc35, hk35, hF⟩ := dr_some hF
        refine W_st (st' := [.int x34, .ref (ad b35), .int s8.1, .int p0, .ref (ad b32), va_re ad (s8.2.2 a 4)]) (by rw [va_some ho35]) ?_
        obtain ⟨hvc, hF⟩ := chk_some hF
        refine va_iald hx hb hK hP b35 1 (wld_i ct ad G s8.2 hc35 hk35) rfl hvc dX0_buildPieces_68 ?_
        obtain ⟨x36, ex36, hF⟩ := ltt_some hF
        refine lv_topi (fun zx36 ezx36 => ?_)
        obtain rfl : x36 = zx36 := ex36.trans ezx36.symm
        refine lv_iload hx hb dX0_buildPieces_69 (lv_at hl 0 rfl) ?_
        refine lv_iload_n hx hb dX0_buildPieces_71 rfl (lv_at hl 6 rfl) ?_
        obtain ⟨y37, hy37, hF⟩ := bnd_some hF
        have hf9 := wA_in hD hA9 hS
        refine va_calli (va_runS (As := [.int s8.1, .int p2]) (rest := [.int x36, .int s8.1, .int p0, .ref (ad b32), va_re ad (s8.2.2 a 4)]) ⟨hx, hb, hml, hown, hts⟩ (kX9_sidesOf l D ct ad Z G s8.2 H.size s8.1 p2 y37 hy37) (va_cwS 2 hts gX0_buildPieces_X9_sidesOf rfl rfl rfl (by decide +kernel) ⟨Nat.le_of_ble_eq_true rfl, Nat.le_of_ble_eq_true rfl⟩) ⟨fun a U g mk q => by obtain ⟨q0, q1, qP, qK, qD, qZ, qN⟩ := q; exact ⟨q0, q1, qP, va_K.moved (u := U) (U := U.calling g mk a) (Vm.Alike.refl U.vm) qK, qD, sF.moved (u := U) (U := U.calling g mk a) (Vm.Alike.refl U.vm) qZ, nF.same rfl qN⟩, fun U hU hW => ⟨rfl, by rw [hU], by rw [hU]; exact hP, va_K.moved hW.alike hK, hD.weaken (fun _ _ _ _ => trivial), by rw [hU]; exact ((hZ.kept hS.2.1).narrow hf9).moved hW.alike, hN.warm hW⟩⟩ rfl rfl hl.1 rfl (lv_room (by simp only [List.map, va_re_cat]; exact Nat.le_of_ble_eq_true rfl)) dX0_buildPieces_72 ⟨(Nat.zero_le _), (Nat.zero_le _)⟩) hS (fun q _ h => hf9 q h) hf9 (fun r u t H locs ht hvm hw hB hz1 hk1 hS => ?_)
        obtain ⟨hP, hK9, hD9⟩ := hB
        rw [ht] at hP
        try dsimp only at hw
        subst hw
        have hD := hD9.weaken (fun _ q _ h => hf9 q.1 h)
        obtain ⟨b38, ho38, hc38, hk38, hF⟩ := dr_some hF
        refine W_st (st' := [.int y37.2, .int x36, .int s8.1, .int p0, .ref (ad b32), .ref (ad b38)]) (by rw [va_some ho38]) ?_
        obtain ⟨y39, hy39, hF⟩ := bnd_some hF
        have hf9 := wA_in hD hA9 hS
        refine va_callv (va_runV (As := [.ref (ad b32), .int p0, .int s8.1, .int x36, .int y37.2]) (rest := []) ⟨hx, hb, hml, hown, hts⟩ (kX6_predictFour l D ct ad Z G y37.1 H.size b38 (some b32) p0 s8.1 x36 y37.2 y39 hc38 hk38 hy39) (cwV 5 hts gX0_buildPieces_X6_predictFour rfl rfl rfl (by decide +kernel) ⟨Nat.le_of_ble_eq_true rfl, Nat.le_of_ble_eq_true rfl⟩) ⟨fun a U g mk q => by obtain ⟨q0, q1, qP, qK, qD, qZ, qN⟩ := q; exact ⟨q0, q1, qP, va_K.moved (u := U) (U := U.calling g mk a) (Vm.Alike.refl U.vm) qK, qD, sF.moved (u := U) (U := U.calling g mk a) (Vm.Alike.refl U.vm) qZ, nF.same rfl qN⟩, va_recv hK hP (ci := 6) (q0 := b38) rfl (wld_o ct ad G y37.1 hc38 hk38 (by decide)), fun U hU hW => ⟨rfl, by rw [hU], by rw [hU]; exact hP, va_K.moved hW.alike hK, hD.weaken (fun _ _ _ _ => trivial), by rw [hU]; exact ((hZ.kept hS.2.1).narrow hf9).moved hW.alike, hN.warm hW⟩⟩ rfl rfl hl.1 rfl (lv_room (Nat.le_of_ble_eq_true rfl)) dX0_buildPieces_75 ⟨(Nat.zero_le _), (Nat.zero_le _)⟩) hS (fun q _ h => hf9 q h) hf9 (fun u t H locs ht hvm hw hB hz1 hk1 hS => ?_)
        obtain ⟨hP, hK9, hD9⟩ := hB
        rw [ht] at hP
        have hD := hD9.weaken (fun _ q _ h => hf9 q.1 h)
        obtain rfl := Option.some.inj hF
        exact J12 _ _ _ hP hD hS (lv_sub hl [0, 1, 2, 3, 4, 5, 6, 7] rfl)
  clear hF
  have hF := hy6
  clear hy6
  refine lv_if_ne (tgt := 25) hx hb dX0_buildPieces_18 (by decide) (fun c40 => ?_) (fun c40 => ?_)
  · rw [if_neg c40] at hF
    refine lv_iconst (v := (0 : Int32)) hx hb dX0_buildPieces_25 (by decide) ?_
    obtain rfl := Option.some.inj hF
    exact J6 _ _ _ hP hD hS (lv_sub hl [0, 1, 2, 3, 4, 5] rfl)
  · rw [if_pos c40] at hF
    refine lv_iconst (v := (1 : Int32)) hx hb dX0_buildPieces_21 (by decide) ?_
    refine lv_goto (tgt := 26) hx hb dX0_buildPieces_22 (by decide) ?_
    obtain rfl := Option.some.inj hF
    exact J6 _ _ _ hP hD hS (lv_sub hl [0, 1, 2, 3, 4, 5] rfl)
theorem ggX0_costOfDirect_X9_direct : GoodIn wsX0_costOfDirect wsX9_direct := goodIn_r _ [9, 10, 11, 12, 13, 14, 15, 16, 17, 8, 18, 19, 20, 21, 22, 23, 24, 25, 26, 27, 28, 29, 30, 31, 32, 33, 34, 35, 36, 37, 38, 39, 40, 41, 42, 43, 44, 45, 46, 47, 48, 49, 50, 51, 52, 53, 54, 55, 56, 57, 58, 59, 60, 61, 62, 63, 64, 65, 66, 67, 68, 69, 70, 71, 72, 73, 74, 75, 76, 77, 78, 79, 80, 81, 82, 83, 84, 85, 86, 87, 88, 89, 90, 91, 92, 93, 94, 210, 211, 212, 213, 214, 215, 216, 217, 218, 219, 220, 221, 222, 223, 224, 225, 226, 227, 228, 229, 230, 231, 232, 233, 234, 235, 236, 237, 238, 239, 240, 241, 242, 243, 244, 245, 246, 247, 248, 249, 250, 251] (by decide +kernel) (by decide +kernel)
set_option maxRecDepth 20000 in
theorem gX0_costOfDirect_X9_direct : GoodIn wsX0_costOfDirect (wsV RX0 372 RX9 yX9_direct wsX9_direct) := goodIn_app (goodIn_of _ (by decide +kernel)) ggX0_costOfDirect_X9_direct
set_option maxRecDepth 20000 in
theorem ggX0_costOfDirect_X6_predictByLists : GoodIn wsX0_costOfDirect wsX6_predictByLists := goodIn_r _ [99, 100, 101, 102, 103, 27, 104, 35, 105, 106, 37, 38, 107, 108, 109, 98, 110, 111, 112, 113, 114, 115, 116, 117, 118, 119, 120, 121, 122, 123, 79, 8, 80, 124, 82, 83, 125, 126, 127, 128, 129, 130, 131, 132, 133, 134, 135, 136, 137, 138, 139, 140, 141, 142, 143, 144, 145, 146, 147, 148, 149, 150, 151, 152, 153, 154, 155, 156, 157, 158, 159, 160, 161, 162, 163, 164, 165, 166, 167, 168, 45, 46, 169, 48, 49, 50, 51, 52, 53, 170, 171, 172, 173, 174, 175, 176, 177, 178, 179, 180, 181, 210, 211, 212, 213, 214, 215, 216, 217, 218, 219, 220, 221, 222, 223, 224, 225, 226, 227, 228, 229, 234, 235, 236, 237, 238, 239, 240, 241, 242, 243, 244, 245, 246, 247, 248, 249, 250, 251, 252, 253, 254, 255, 256, 257, 258, 259, 260, 261, 262, 263, 264, 265, 230, 231, 232, 233] (by decide +kernel) (by decide +kernel)
set_option maxRecDepth 20000 in
theorem gX0_costOfDirect_X6_predictByLists : GoodIn wsX0_costOfDirect (wsV RX0 498 RX6 yX6_predictByLists wsX6_predictByLists) := goodIn_app (goodIn_of _ (by decide +kernel)) ggX0_costOfDirect_X6_predictByLists
set_option maxRecDepth 20000 in
theorem ggX0_costOfDirect_X6_differences : GoodIn wsX0_costOfDirect wsX6_differences := goodIn_r _ [185, 100, 178, 123, 79, 8, 80, 124, 82, 83, 186, 187, 98, 188, 119, 210, 211, 212, 213, 214, 215, 216, 217, 218, 219, 220, 221, 222, 223, 224, 225, 226, 227, 228, 229, 252, 253, 254, 255, 256, 257, 258, 259, 260, 261, 262, 263, 264, 265, 234, 235, 236, 237, 238, 239, 240, 241, 242, 243, 244, 245, 246, 247, 248, 249, 250, 251] (by decide +kernel) (by decide +kernel)
set_option maxRecDepth 20000 in
theorem gX0_costOfDirect_X6_differences : GoodIn wsX0_costOfDirect (wsV RX0 452 RX6 yX6_differences wsX6_differences) := goodIn_app (goodIn_of _ (by decide +kernel)) ggX0_costOfDirect_X6_differences
theorem dX0_costOfDirect_0 : decode cX0_costOfDirect 0 = .ok (.aload_n 0, 1) := by decide +kernel
theorem dX0_costOfDirect_1 : decode cX0_costOfDirect 1 = .ok (.getfield 36, 3) := by decide +kernel
theorem dX0_costOfDirect_4 : decode cX0_costOfDirect 4 = .ok (.iload_n 1, 1) := by decide +kernel
theorem dX0_costOfDirect_5 : decode cX0_costOfDirect 5 = .ok (.bipush 15, 2) := by decide +kernel
theorem dX0_costOfDirect_7 : decode cX0_costOfDirect 7 = .ok (.invokevirtual 372, 3) := by decide +kernel
theorem dX0_costOfDirect_10 : decode cX0_costOfDirect 10 = .ok (.ifCond .ne 7, 3) := by decide +kernel
theorem dX0_costOfDirect_13 : decode cX0_costOfDirect 13 = .ok (.ldc_w 435, 3) := by decide +kernel
theorem dX0_costOfDirect_16 : decode cX0_costOfDirect 16 = .ok (.ireturn, 1) := by decide +kernel
theorem dX0_costOfDirect_17 : decode cX0_costOfDirect 17 = .ok (.aload_n 0, 1) := by decide +kernel
theorem dX0_costOfDirect_18 : decode cX0_costOfDirect 18 = .ok (.getfield 43, 3) := by decide +kernel
theorem dX0_costOfDirect_21 : decode cX0_costOfDirect 21 = .ok (.aload_n 0, 1) := by decide +kernel
theorem dX0_costOfDirect_22 : decode cX0_costOfDirect 22 = .ok (.getfield 36, 3) := by decide +kernel
theorem dX0_costOfDirect_25 : decode cX0_costOfDirect 25 = .ok (.iload_n 1, 1) := by decide +kernel
theorem dX0_costOfDirect_26 : decode cX0_costOfDirect 26 = .ok (.invokevirtual 498, 3) := by decide +kernel
theorem dX0_costOfDirect_29 : decode cX0_costOfDirect 29 = .ok (.aload_n 0, 1) := by decide +kernel
theorem dX0_costOfDirect_30 : decode cX0_costOfDirect 30 = .ok (.getfield 43, 3) := by decide +kernel
theorem dX0_costOfDirect_33 : decode cX0_costOfDirect 33 = .ok (.aload_n 0, 1) := by decide +kernel
theorem dX0_costOfDirect_34 : decode cX0_costOfDirect 34 = .ok (.getfield 36, 3) := by decide +kernel
theorem dX0_costOfDirect_37 : decode cX0_costOfDirect 37 = .ok (.aload_n 0, 1) := by decide +kernel
theorem dX0_costOfDirect_38 : decode cX0_costOfDirect 38 = .ok (.getfield 69, 3) := by decide +kernel
theorem dX0_costOfDirect_41 : decode cX0_costOfDirect 41 = .ok (.iconst 0, 1) := by decide +kernel
theorem dX0_costOfDirect_42 : decode cX0_costOfDirect 42 = .ok (.aaload, 1) := by decide +kernel
theorem dX0_costOfDirect_43 : decode cX0_costOfDirect 43 = .ok (.iload_n 1, 1) := by decide +kernel
theorem dX0_costOfDirect_44 : decode cX0_costOfDirect 44 = .ok (.iconst 0, 1) := by decide +kernel
theorem dX0_costOfDirect_45 : decode cX0_costOfDirect 45 = .ok (.bipush 16, 2) := by decide +kernel
theorem dX0_costOfDirect_47 : decode cX0_costOfDirect 47 = .ok (.invokevirtual 452, 3) := by decide +kernel
theorem dX0_costOfDirect_50 : decode cX0_costOfDirect 50 = .ok (.ireturn, 1) := by decide +kernel
def FX0_costOfDirect (G : GG) (M : DD) (a : Nat) (p0 : Int32) : Option (DD × Int32) :=
  dr G 9 ((M.2 a 3)) fun b2 =>
  bnd (FX9_direct G M b2 p0 ((15 : Int32))) fun y3 =>
  if y3.2 = ((0 : Int32)) then (some (y3.1, (2147483647 : Int32))) else
  (dr G 6 ((y3.1.2 a 4)) fun b5 =>
  bnd (FX6_predictByLists G y3.1 b5 ((y3.1.2 a 3)) p0) fun y6 =>
  dr G 15 ((y6.2 a 9)) fun b7 =>
  chk (¬ (((0 : Int32)) < 0 ∨ G.2.2 b7 ≤ ((0 : Int32)).toNatClampNeg)) <|
  dr G 6 ((y6.2 a 4)) fun b8 =>
  bnd (FX6_differences G y6 b8 ((y6.2 a 3)) ((y6.2 b7 ((0 : Int32)).toNatClampNeg)) p0 ((0 : Int32)) ((16 : Int32))) fun y9 =>
  some (y9.1, y9.2))
set_option maxHeartbeats 4000000 in
set_option maxRecDepth 100000 in
theorem kX0_costOfDirect (l : Launch) (D : va_G) (ct : CT) (ad : Nat → Nat) (Z : Nat → Nat) (G : GG) (M : DD) (sz : Nat) (a : Nat) (p0 : Int32) (y : DD × Int32) (hc : a < G.1) (hk : G.2.1 a = 0) (hF : FX0_costOfDirect G M a p0 = some y) : Met l yX0_costOfDirect wsX0_costOfDirect ({ frames := 5, cells := 0, slots := 0, locals := 140 }) (va_Pc [.ref (ad a), .int p0] (kB D ct ad Z G M sz)) (va_Qi (fun (q : Int32) (_ : Unit) => q = y.2) (fun _ t => kE D ct ad G (wA ad G sz) y.1 t) (wA ad G sz)) 0 0 (wA ad G sz) := by
  refine Met.ofW (cc := cX0_costOfDirect) (maxL := 2) (ret := (some .int)) (by decide) rfl ?_
  intro p e s m args below meth c s₁ B hml hv
  obtain ⟨rfl, hsz, hP, hK, hD0, hZ, hN⟩ := hv
  have hx := B.exec
  have hb := B.bytes
  have hr := B.returns
  have hts := atoms_spec (ws := wsX0_costOfDirect) B.pre
  have hown : s.vm.findClass RX0 = some m.cls := findClass_of_methodNamed B.named
  have hlocks := B.notSynchronized
  subst hsz
  have hD := wD_self (sz := s.heap.size) hD0
  have hA9 : ∀ q, s.heap.size ≤ q → wA ad G s.heap.size q := fun q h => Or.inr h
  generalize hAe : wA ad G s.heap.size = A at hD hA9 hZ ⊢
  have hS : va_S A s.heap s.heap [] := va_S.rf
  have hl := lv_entry ([.ref (ad a), .int p0]) (n := 2) (Nat.le_of_ble_eq_true rfl)
  rw [lg_entry_eq]
  generalize (lg_sl ([.ref (ad a), .int p0]) ++ List.replicate (2 - (lg_sl ([.ref (ad a), .int p0])).length) Slot.unset).toArray = ls at hl ⊢
  have hl : lv_has ls 2 [(0, .ref (ad a)), (1, .int p0)] := hl
  unfold FX0_costOfDirect at hF
  refine lv_aload_n hx hb dX0_costOfDirect_0 rfl (lv_at hl 0 rfl) ?_
  refine va_get (D := D) (ci := 0) (v := va_re ad (M.2 a 3)) (C := RX0) (T := TX0) (N := 21) hx hb hts (by decide +kernel) hown hK hP a (wld_o ct ad G M hc hk (by decide)) rfl 3 (by decide) (hts (.fieldLink RX0 36 "VideoSuite$Coder" "work" "LVideoSuite$Work;") (by decide +kernel)) (fun _ h9 => h9) rfl dX0_costOfDirect_1 ?_
  refine lv_iload_n hx hb dX0_costOfDirect_4 rfl (lv_at hl 1 rfl) ?_
  refine lv_bipush (v := (15 : Int32)) hx hb dX0_costOfDirect_5 (by decide) ?_
  obtain ⟨b2, ho2, hc2, hk2, hF⟩ := dr_some hF
  refine W_st (st' := [.int (15 : Int32), .int p0, .ref (ad b2)]) (by rw [va_some ho2]) ?_
  obtain ⟨y3, hy3, hF⟩ := bnd_some hF
  have hf9 := wA_in hD hA9 hS
  refine va_calli (va_runV (As := [.int p0, .int (15 : Int32)]) (rest := []) ⟨hx, hb, hml, hown, hts⟩ (kX9_direct l D ct ad Z G M s.heap.size b2 p0 ((15 : Int32)) y3 hc2 hk2 hy3) (cwV 2 hts gX0_costOfDirect_X9_direct rfl rfl rfl (by decide +kernel) ⟨Nat.le_of_ble_eq_true rfl, Nat.le_of_ble_eq_true rfl⟩) ⟨fun a U g mk q => by obtain ⟨q0, q1, qP, qK, qD, qZ, qN⟩ := q; exact ⟨q0, q1, qP, va_K.moved (u := U) (U := U.calling g mk a) (Vm.Alike.refl U.vm) qK, qD, sF.moved (u := U) (U := U.calling g mk a) (Vm.Alike.refl U.vm) qZ, nF.same rfl qN⟩, va_recv hK hP (ci := 9) (q0 := b2) rfl (wld_o ct ad G M hc2 hk2 (by decide)), fun U hU hW => ⟨rfl, by rw [hU], by rw [hU]; exact hP, va_K.moved hW.alike hK, hD.weaken (fun _ _ _ _ => trivial), by rw [hU]; exact ((hZ.kept hS.2.1).narrow hf9).moved hW.alike, hN.warm hW⟩⟩ rfl rfl hl.1 rfl (lv_room (Nat.le_of_ble_eq_true rfl)) dX0_costOfDirect_7 ⟨(Nat.zero_le _), (Nat.zero_le _)⟩) hS (fun q _ h => hf9 q h) hf9 (fun r u t H locs ht hvm hw hB hz1 hk1 hS => ?_)
  obtain ⟨hP, hK9, hD9⟩ := hB
  rw [ht] at hP
  try dsimp only at hw
  subst hw
  have hD := hD9.weaken (fun _ q _ h => hf9 q.1 h)
  refine lv_if_ne (tgt := 17) hx hb dX0_costOfDirect_10 (by decide) (fun c4 => ?_) (fun c4 => ?_)
  · rw [if_neg c4] at hF
    refine lv_aload_n hx hb dX0_costOfDirect_17 rfl (lv_at hl 0 rfl) ?_
    refine va_get (D := D) (ci := 0) (v := va_re ad (y3.1.2 a 4)) (C := RX0) (T := TX0) (N := 21) hx hb hts (by decide +kernel) hown hK hP a (wld_o ct ad G y3.1 hc hk (by decide)) rfl 4 (by decide) (hts (.fieldLink RX0 43 "VideoSuite$Coder" "samples" "LVideoSuite$Samples;") (by decide +kernel)) (fun _ h9 => h9) rfl dX0_costOfDirect_18 ?_
    refine lv_aload_n hx hb dX0_costOfDirect_21 rfl (lv_at hl 0 rfl) ?_
    refine va_get (D := D) (ci := 0) (v := va_re ad (y3.1.2 a 3)) (C := RX0) (T := TX0) (N := 21) hx hb hts (by decide +kernel) hown hK hP a (wld_o ct ad G y3.1 hc hk (by decide)) rfl 3 (by decide) (hts (.fieldLink RX0 36 "VideoSuite$Coder" "work" "LVideoSuite$Work;") (by decide +kernel)) (fun _ h9 => h9) rfl dX0_costOfDirect_22 ?_
    refine lv_iload_n hx hb dX0_costOfDirect_25 rfl (lv_at hl 1 rfl) ?_
    obtain ⟨b5, ho5, hc5, hk5, hF⟩ := dr_some hF
    refine W_st (st' := [.int p0, va_re ad (y3.1.2 a 3), .ref (ad b5)]) (by rw [va_some ho5]) ?_
    obtain ⟨y6, hy6, hF⟩ := bnd_some hF
    have hf9 := wA_in hD hA9 hS
    refine va_callv (va_runV (As := [va_re ad (y3.1.2 a 3), .int p0]) (rest := []) ⟨hx, hb, hml, hown, hts⟩ (kX6_predictByLists l D ct ad Z G y3.1 H.size b5 ((y3.1.2 a 3)) p0 y6 hc5 hk5 hy6) (cwV 2 hts gX0_costOfDirect_X6_predictByLists rfl rfl rfl (by decide +kernel) ⟨Nat.le_of_ble_eq_true rfl, Nat.le_of_ble_eq_true rfl⟩) ⟨fun a U g mk q => by obtain ⟨q0, q1, qP, qK, qD, qZ, qN⟩ := q; exact ⟨q0, q1, qP, va_K.moved (u := U) (U := U.calling g mk a) (Vm.Alike.refl U.vm) qK, qD, sF.moved (u := U) (U := U.calling g mk a) (Vm.Alike.refl U.vm) qZ, nF.same rfl qN⟩, va_recv hK hP (ci := 6) (q0 := b5) rfl (wld_o ct ad G y3.1 hc5 hk5 (by decide)), fun U hU hW => ⟨rfl, by rw [hU], by rw [hU]; exact hP, va_K.moved hW.alike hK, hD.weaken (fun _ _ _ _ => trivial), by rw [hU]; exact ((hZ.kept hS.2.1).narrow hf9).moved hW.alike, hN.warm hW⟩⟩ rfl rfl hl.1 rfl (lv_room (Nat.le_of_ble_eq_true rfl)) dX0_costOfDirect_26 ⟨(Nat.zero_le _), (Nat.zero_le _)⟩) hS (fun q _ h => hf9 q h) hf9 (fun u t H locs ht hvm hw hB hz1 hk1 hS => ?_)
    obtain ⟨hP, hK9, hD9⟩ := hB
    rw [ht] at hP
    have hD := hD9.weaken (fun _ q _ h => hf9 q.1 h)
    refine lv_aload_n hx hb dX0_costOfDirect_29 rfl (lv_at hl 0 rfl) ?_
    refine va_get (D := D) (ci := 0) (v := va_re ad (y6.2 a 4)) (C := RX0) (T := TX0) (N := 21) hx hb hts (by decide +kernel) hown hK hP a (wld_o ct ad G y6 hc hk (by decide)) rfl 4 (by decide) (hts (.fieldLink RX0 43 "VideoSuite$Coder" "samples" "LVideoSuite$Samples;") (by decide +kernel)) (fun _ h9 => h9) rfl dX0_costOfDirect_30 ?_
    refine lv_aload_n hx hb dX0_costOfDirect_33 rfl (lv_at hl 0 rfl) ?_
    refine va_get (D := D) (ci := 0) (v := va_re ad (y6.2 a 3)) (C := RX0) (T := TX0) (N := 21) hx hb hts (by decide +kernel) hown hK hP a (wld_o ct ad G y6 hc hk (by decide)) rfl 3 (by decide) (hts (.fieldLink RX0 36 "VideoSuite$Coder" "work" "LVideoSuite$Work;") (by decide +kernel)) (fun _ h9 => h9) rfl dX0_costOfDirect_34 ?_
    refine lv_aload_n hx hb dX0_costOfDirect_37 rfl (lv_at hl 0 rfl) ?_
    refine va_get (D := D) (ci := 0) (v := va_re ad (y6.2 a 9)) (C := RX0) (T := TX0) (N := 21) hx hb hts (by decide +kernel) hown hK hP a (wld_o ct ad G y6 hc hk (by decide)) rfl 9 (by decide) (hts (.fieldLink RX0 69 "VideoSuite$Coder" "source" "[[I") (by decide +kernel)) (fun _ h9 => h9) rfl dX0_costOfDirect_38 ?_
    refine lv_iconst (v := (0 : Int32)) hx hb dX0_costOfDirect_41 (by decide) ?_
    obtain ⟨b7, ho7, hc7, hk7, hF⟩ := dr_some hF
    refine W_st (st' := [.int (0 : Int32), .ref (ad b7), va_re ad (y6.2 a 3), va_re ad (y6.2 a 4)]) (by rw [va_some ho7]) ?_
    obtain ⟨hvc, hF⟩ := chk_some hF
    refine ld_g hx hb hK hP hc7 hk7 hvc dX0_costOfDirect_42 ?_
    refine lv_iload_n hx hb dX0_costOfDirect_43 rfl (lv_at hl 1 rfl) ?_
    refine lv_iconst (v := (0 : Int32)) hx hb dX0_costOfDirect_44 (by decide) ?_
    refine lv_bipush (v := (16 : Int32)) hx hb dX0_costOfDirect_45 (by decide) ?_
    obtain ⟨b8, ho8, hc8, hk8, hF⟩ := dr_some hF
    refine W_st (st' := [.int (16 : Int32), .int (0 : Int32), .int p0, va_re ad (y6.2 b7 ((0 : Int32)).toNatClampNeg), va_re ad (y6.2 a 3), .ref (ad b8)]) (by rw [va_some ho8]) ?_
    obtain ⟨y9, hy9, hF⟩ := bnd_some hF
    have hf9 := wA_in hD hA9 hS
    refine va_calli (va_runV (As := [va_re ad (y6.2 a 3), va_re ad (y6.2 b7 ((0 : Int32)).toNatClampNeg), .int p0, .int (0 : Int32), .int (16 : Int32)]) (rest := []) ⟨hx, hb, hml, hown, hts⟩ (kX6_differences l D ct ad Z G y6 H.size b8 ((y6.2 a 3)) ((y6.2 b7 ((0 : Int32)).toNatClampNeg)) p0 ((0 : Int32)) ((16 : Int32)) y9 hc8 hk8 hy9) (cwV 5 hts gX0_costOfDirect_X6_differences rfl rfl rfl (by decide +kernel) ⟨Nat.le_of_ble_eq_true rfl, Nat.le_of_ble_eq_true rfl⟩) ⟨fun a U g mk q => by obtain ⟨q0, q1, qP, qK, qD, qZ, qN⟩ := q; exact ⟨q0, q1, qP, va_K.moved (u := U) (U := U.calling g mk a) (Vm.Alike.refl U.vm) qK, qD, sF.moved (u := U) (U := U.calling g mk a) (Vm.Alike.refl U.vm) qZ, nF.same rfl qN⟩, va_recv hK hP (ci := 6) (q0 := b8) rfl (wld_o ct ad G y6 hc8 hk8 (by decide)), fun U hU hW => ⟨rfl, by rw [hU], by rw [hU]; exact hP, va_K.moved hW.alike hK, hD.weaken (fun _ _ _ _ => trivial), by rw [hU]; exact ((hZ.kept hS.2.1).narrow hf9).moved hW.alike, hN.warm hW⟩⟩ rfl rfl hl.1 rfl (lv_room (Nat.le_of_ble_eq_true rfl)) dX0_costOfDirect_47 ⟨(Nat.zero_le _), (Nat.zero_le _)⟩) hS (fun q _ h => hf9 q h) hf9 (fun r u t H locs ht hvm hw hB hz1 hk1 hS => ?_)
    obtain ⟨hP, hK9, hD9⟩ := hB
    rw [ht] at hP
    try dsimp only at hw
    subst hw
    have hD := hD9.weaken (fun _ q _ h => hf9 q.1 h)
    obtain rfl := Option.some.inj hF
    exact W.iret (v := y9.2) hx hb hr (fun t ht hW => ⟨⟨_, (), rfl, rfl, ⟨by rw [ht]; exact hP, va_K.moved hW.alike hK, hD⟩⟩, hS.F ht⟩) hS.2.2 dX0_costOfDirect_50
  · rw [if_pos c4] at hF
    refine lv_ldcw (v := (2147483647 : Int32)) hx hb hown (hts (.constant RX0 435 (2147483647 : Int32)) (by decide +kernel)) dX0_costOfDirect_13 ?_
    obtain rfl := Option.some.inj hF
    exact W.iret (v := (2147483647 : Int32)) hx hb hr (fun t ht hW => ⟨⟨_, (), rfl, rfl, ⟨by rw [ht]; exact hP, va_K.moved hW.alike hK, hD⟩⟩, hS.F ht⟩) hS.2.2 dX0_costOfDirect_16
