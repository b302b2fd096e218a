set_option maxRecDepth 20000 in
theorem gX6_predictColours__X6_colourAt : GoodIn wuX6_predictColours_ (va_wsS RX6 206 yX6_colourAt wuX6_colourAt) := gu_S mw_1985 mw_1986 mw_172 mw_1987
set_option maxRecDepth 20000 in
set_option maxRecDepth 20000 in
theorem gX6_predictColours__X6_takeSides : GoodIn wuX6_predictColours_ (wsV RX6 195 RX6 yX6_takeSides wuX6_takeSides) := gu_V mw_2056 mw_2058 mw_77 mw_172 mw_2059
set_option maxRecDepth 20000 in
set_option maxRecDepth 20000 in
theorem gX6_predictColours__X6_colourMean : GoodIn wuX6_predictColours_ (wsV RX6 209 RX6 yX6_colourMean wuX6_colourMean) := gu_V mw_2064 mw_2066 mw_79 mw_172 mw_2067
set_option maxRecDepth 20000 in
theorem gX6_predictColours__X6_fillPlane : GoodIn wuX6_predictColours_ (wsV RX6 199 RX6 yX6_fillPlane wuX6_fillPlane) := gu_V mw_2060 mw_2062 mw_78 mw_172 mw_2063
set_option maxRecDepth 20000 in
theorem dX6_predictColours__0 : decode cX6_predictColours_ 0 = .ok (.iconst 1, 1) := by decide +kernel
theorem dX6_predictColours__1 : decode cX6_predictColours_ 1 = .ok (.istore 5, 2) := by decide +kernel
theorem dX6_predictColours__3 : decode cX6_predictColours_ 3 = .ok (.iload 5, 2) := by decide +kernel
theorem dX6_predictColours__5 : decode cX6_predictColours_ 5 = .ok (.iconst 3, 1) := by decide +kernel
theorem dX6_predictColours__6 : decode cX6_predictColours_ 6 = .ok (.if_icmp .ge 233, 3) := by decide +kernel
theorem dX6_predictColours__9 : decode cX6_predictColours_ 9 = .ok (.sipush 192, 3) := by decide +kernel
theorem dX6_predictColours__12 : decode cX6_predictColours_ 12 = .ok (.bipush 64, 2) := by decide +kernel
theorem dX6_predictColours__14 : decode cX6_predictColours_ 14 = .ok (.iload 5, 2) := by decide +kernel
theorem dX6_predictColours__16 : decode cX6_predictColours_ 16 = .ok (.imul, 1) := by decide +kernel
theorem dX6_predictColours__17 : decode cX6_predictColours_ 17 = .ok (.iadd, 1) := by decide +kernel
theorem dX6_predictColours__18 : decode cX6_predictColours_ 18 = .ok (.istore 6, 2) := by decide +kernel
theorem dX6_predictColours__20 : decode cX6_predictColours_ 20 = .ok (.aload_n 0, 1) := by decide +kernel
theorem dX6_predictColours__21 : decode cX6_predictColours_ 21 = .ok (.aload_n 1, 1) := by decide +kernel
theorem dX6_predictColours__22 : decode cX6_predictColours_ 22 = .ok (.getfield 46, 3) := by decide +kernel
theorem dX6_predictColours__25 : decode cX6_predictColours_ 25 = .ok (.getfield 121, 3) := by decide +kernel
theorem dX6_predictColours__28 : decode cX6_predictColours_ 28 = .ok (.iload 5, 2) := by decide +kernel
theorem dX6_predictColours__30 : decode cX6_predictColours_ 30 = .ok (.aaload, 1) := by decide +kernel
theorem dX6_predictColours__31 : decode cX6_predictColours_ 31 = .ok (.aload_n 1, 1) := by decide +kernel
theorem dX6_predictColours__32 : decode cX6_predictColours_ 32 = .ok (.getfield 46, 3) := by decide +kernel
theorem dX6_predictColours__35 : decode cX6_predictColours_ 35 = .ok (.iload_n 2, 1) := by decide +kernel
theorem dX6_predictColours__36 : decode cX6_predictColours_ 36 = .ok (.iconst 0, 1) := by decide +kernel
theorem dX6_predictColours__37 : decode cX6_predictColours_ 37 = .ok (.iconst 0, 1) := by decide +kernel
theorem dX6_predictColours__38 : decode cX6_predictColours_ 38 = .ok (.invokestatic 206, 3) := by decide +kernel
theorem dX6_predictColours__41 : decode cX6_predictColours_ 41 = .ok (.bipush 8, 2) := by decide +kernel
theorem dX6_predictColours__43 : decode cX6_predictColours_ 43 = .ok (.aload_n 1, 1) := by decide +kernel
theorem dX6_predictColours__44 : decode cX6_predictColours_ 44 = .ok (.getfield 46, 3) := by decide +kernel
theorem dX6_predictColours__47 : decode cX6_predictColours_ 47 = .ok (.getfield 83, 3) := by decide +kernel
theorem dX6_predictColours__50 : decode cX6_predictColours_ 50 = .ok (.imul, 1) := by decide +kernel
theorem dX6_predictColours__51 : decode cX6_predictColours_ 51 = .ok (.bipush 8, 2) := by decide +kernel
theorem dX6_predictColours__53 : decode cX6_predictColours_ 53 = .ok (.iload 4, 2) := by decide +kernel
theorem dX6_predictColours__55 : decode cX6_predictColours_ 55 = .ok (.invokevirtual 195, 3) := by decide +kernel
theorem dX6_predictColours__58 : decode cX6_predictColours_ 58 = .ok (.iload_n 3, 1) := by decide +kernel
theorem dX6_predictColours__59 : decode cX6_predictColours_ 59 = .ok (.iconst 3, 1) := by decide +kernel
theorem dX6_predictColours__60 : decode cX6_predictColours_ 60 = .ok (.if_icmp .ne 16, 3) := by decide +kernel
theorem dX6_predictColours__63 : decode cX6_predictColours_ 63 = .ok (.aload_n 0, 1) := by decide +kernel
theorem dX6_predictColours__64 : decode cX6_predictColours_ 64 = .ok (.iload 6, 2) := by decide +kernel
theorem dX6_predictColours__66 : decode cX6_predictColours_ 66 = .ok (.bipush 8, 2) := by decide +kernel
theorem dX6_predictColours__68 : decode cX6_predictColours_ 68 = .ok (.bipush 34, 2) := by decide +kernel
theorem dX6_predictColours__70 : decode cX6_predictColours_ 70 = .ok (.invokevirtual 199, 3) := by decide +kernel
theorem dX6_predictColours__73 : decode cX6_predictColours_ 73 = .ok (.goto 160, 3) := by decide +kernel
theorem dX6_predictColours__76 : decode cX6_predictColours_ 76 = .ok (.iconst 0, 1) := by decide +kernel
theorem dX6_predictColours__77 : decode cX6_predictColours_ 77 = .ok (.istore 7, 2) := by decide +kernel
theorem dX6_predictColours__79 : decode cX6_predictColours_ 79 = .ok (.iload 7, 2) := by decide +kernel
theorem dX6_predictColours__81 : decode cX6_predictColours_ 81 = .ok (.bipush 64, 2) := by decide +kernel
theorem dX6_predictColours__83 : decode cX6_predictColours_ 83 = .ok (.if_icmp .ge 69, 3) := by decide +kernel
theorem dX6_predictColours__86 : decode cX6_predictColours_ 86 = .ok (.iload 7, 2) := by decide +kernel
theorem dX6_predictColours__88 : decode cX6_predictColours_ 88 = .ok (.bipush 8, 2) := by decide +kernel
theorem dX6_predictColours__90 : decode cX6_predictColours_ 90 = .ok (.irem, 1) := by decide +kernel
theorem dX6_predictColours__91 : decode cX6_predictColours_ 91 = .ok (.istore 8, 2) := by decide +kernel
theorem dX6_predictColours__93 : decode cX6_predictColours_ 93 = .ok (.iload 7, 2) := by decide +kernel
theorem dX6_predictColours__95 : decode cX6_predictColours_ 95 = .ok (.bipush 8, 2) := by decide +kernel
theorem dX6_predictColours__97 : decode cX6_predictColours_ 97 = .ok (.idiv, 1) := by decide +kernel
theorem dX6_predictColours__98 : decode cX6_predictColours_ 98 = .ok (.istore 9, 2) := by decide +kernel
theorem dX6_predictColours__100 : decode cX6_predictColours_ 100 = .ok (.aload_n 0, 1) := by decide +kernel
theorem dX6_predictColours__101 : decode cX6_predictColours_ 101 = .ok (.getfield 9, 3) := by decide +kernel
theorem dX6_predictColours__104 : decode cX6_predictColours_ 104 = .ok (.iload 6, 2) := by decide +kernel
theorem dX6_predictColours__106 : decode cX6_predictColours_ 106 = .ok (.iload 7, 2) := by decide +kernel
theorem dX6_predictColours__108 : decode cX6_predictColours_ 108 = .ok (.iadd, 1) := by decide +kernel
theorem dX6_predictColours__109 : decode cX6_predictColours_ 109 = .ok (.iload_n 3, 1) := by decide +kernel
theorem dX6_predictColours__110 : decode cX6_predictColours_ 110 = .ok (.iconst 1, 1) := by decide +kernel
theorem dX6_predictColours__111 : decode cX6_predictColours_ 111 = .ok (.if_icmp .ne 16, 3) := by decide +kernel
theorem dX6_predictColours__114 : decode cX6_predictColours_ 114 = .ok (.aload_n 0, 1) := by decide +kernel
theorem dX6_predictColours__115 : decode cX6_predictColours_ 115 = .ok (.getfield 36, 3) := by decide +kernel
theorem dX6_predictColours__118 : decode cX6_predictColours_ 118 = .ok (.bipush 10, 2) := by decide +kernel
theorem dX6_predictColours__120 : decode cX6_predictColours_ 120 = .ok (.iload 9, 2) := by decide +kernel
theorem dX6_predictColours__122 : decode cX6_predictColours_ 122 = .ok (.iadd, 1) := by decide +kernel
theorem dX6_predictColours__123 : decode cX6_predictColours_ 123 = .ok (.iaload, 1) := by decide +kernel
theorem dX6_predictColours__124 : decode cX6_predictColours_ 124 = .ok (.goto 21, 3) := by decide +kernel
theorem dX6_predictColours__127 : decode cX6_predictColours_ 127 = .ok (.iload_n 3, 1) := by decide +kernel
theorem dX6_predictColours__128 : decode cX6_predictColours_ 128 = .ok (.iconst 2, 1) := by decide +kernel
theorem dX6_predictColours__129 : decode cX6_predictColours_ 129 = .ok (.if_icmp .ne 15, 3) := by decide +kernel
theorem dX6_predictColours__132 : decode cX6_predictColours_ 132 = .ok (.aload_n 0, 1) := by decide +kernel
theorem dX6_predictColours__133 : decode cX6_predictColours_ 133 = .ok (.getfield 36, 3) := by decide +kernel
theorem dX6_predictColours__136 : decode cX6_predictColours_ 136 = .ok (.iconst 1, 1) := by decide +kernel
theorem dX6_predictColours__137 : decode cX6_predictColours_ 137 = .ok (.iload 8, 2) := by decide +kernel
theorem dX6_predictColours__139 : decode cX6_predictColours_ 139 = .ok (.iadd, 1) := by decide +kernel
theorem dX6_predictColours__140 : decode cX6_predictColours_ 140 = .ok (.iaload, 1) := by decide +kernel
theorem dX6_predictColours__141 : decode cX6_predictColours_ 141 = .ok (.goto 4, 3) := by decide +kernel
theorem dX6_predictColours__144 : decode cX6_predictColours_ 144 = .ok (.iconst 0, 1) := by decide +kernel
theorem dX6_predictColours__145 : decode cX6_predictColours_ 145 = .ok (.iastore, 1) := by decide +kernel
theorem dX6_predictColours__146 : decode cX6_predictColours_ 146 = .ok (.iinc 7 1, 3) := by decide +kernel
theorem dX6_predictColours__149 : decode cX6_predictColours_ 149 = .ok (.goto (-70), 3) := by decide +kernel
theorem dX6_predictColours__152 : decode cX6_predictColours_ 152 = .ok (.iconst 0, 1) := by decide +kernel
theorem dX6_predictColours__153 : decode cX6_predictColours_ 153 = .ok (.istore 7, 2) := by decide +kernel
theorem dX6_predictColours__155 : decode cX6_predictColours_ 155 = .ok (.iload 7, 2) := by decide +kernel
theorem dX6_predictColours__157 : decode cX6_predictColours_ 157 = .ok (.iconst 4, 1) := by decide +kernel
theorem dX6_predictColours__158 : decode cX6_predictColours_ 158 = .ok (.if_icmp .ge 75, 3) := by decide +kernel
theorem dX6_predictColours__161 : decode cX6_predictColours_ 161 = .ok (.iload_n 3, 1) := by decide +kernel
theorem dX6_predictColours__162 : decode cX6_predictColours_ 162 = .ok (.ifCond .ne 71, 3) := by decide +kernel
theorem dX6_predictColours__165 : decode cX6_predictColours_ 165 = .ok (.aload_n 0, 1) := by decide +kernel
theorem dX6_predictColours__166 : decode cX6_predictColours_ 166 = .ok (.iload 7, 2) := by decide +kernel
theorem dX6_predictColours__168 : decode cX6_predictColours_ 168 = .ok (.iload 4, 2) := by decide +kernel
theorem dX6_predictColours__170 : decode cX6_predictColours_ 170 = .ok (.invokevirtual 209, 3) := by decide +kernel
theorem dX6_predictColours__173 : decode cX6_predictColours_ 173 = .ok (.istore 8, 2) := by decide +kernel
theorem dX6_predictColours__175 : decode cX6_predictColours_ 175 = .ok (.iconst 0, 1) := by decide +kernel
theorem dX6_predictColours__176 : decode cX6_predictColours_ 176 = .ok (.istore 9, 2) := by decide +kernel
theorem dX6_predictColours__178 : decode cX6_predictColours_ 178 = .ok (.iload 9, 2) := by decide +kernel
theorem dX6_predictColours__180 : decode cX6_predictColours_ 180 = .ok (.bipush 16, 2) := by decide +kernel
theorem dX6_predictColours__182 : decode cX6_predictColours_ 182 = .ok (.if_icmp .ge 45, 3) := by decide +kernel
theorem dX6_predictColours__185 : decode cX6_predictColours_ 185 = .ok (.aload_n 0, 1) := by decide +kernel
theorem dX6_predictColours__186 : decode cX6_predictColours_ 186 = .ok (.getfield 9, 3) := by decide +kernel
theorem dX6_predictColours__189 : decode cX6_predictColours_ 189 = .ok (.iload 6, 2) := by decide +kernel
theorem dX6_predictColours__191 : decode cX6_predictColours_ 191 = .ok (.iload 7, 2) := by decide +kernel
theorem dX6_predictColours__193 : decode cX6_predictColours_ 193 = .ok (.iconst 2, 1) := by decide +kernel
theorem dX6_predictColours__194 : decode cX6_predictColours_ 194 = .ok (.idiv, 1) := by decide +kernel
theorem dX6_predictColours__195 : decode cX6_predictColours_ 195 = .ok (.iconst 4, 1) := by decide +kernel
theorem dX6_predictColours__196 : decode cX6_predictColours_ 196 = .ok (.imul, 1) := by decide +kernel
theorem dX6_predictColours__197 : decode cX6_predictColours_ 197 = .ok (.iload 9, 2) := by decide +kernel
theorem dX6_predictColours__199 : decode cX6_predictColours_ 199 = .ok (.iconst 4, 1) := by decide +kernel
theorem dX6_predictColours__200 : decode cX6_predictColours_ 200 = .ok (.idiv, 1) := by decide +kernel
theorem dX6_predictColours__201 : decode cX6_predictColours_ 201 = .ok (.iadd, 1) := by decide +kernel
theorem dX6_predictColours__202 : decode cX6_predictColours_ 202 = .ok (.bipush 8, 2) := by decide +kernel
theorem dX6_predictColours__204 : decode cX6_predictColours_ 204 = .ok (.imul, 1) := by decide +kernel
theorem dX6_predictColours__205 : decode cX6_predictColours_ 205 = .ok (.iadd, 1) := by decide +kernel
theorem dX6_predictColours__206 : decode cX6_predictColours_ 206 = .ok (.iload 7, 2) := by decide +kernel
theorem dX6_predictColours__208 : decode cX6_predictColours_ 208 = .ok (.iconst 2, 1) := by decide +kernel
theorem dX6_predictColours__209 : decode cX6_predictColours_ 209 = .ok (.irem, 1) := by decide +kernel
theorem dX6_predictColours__210 : decode cX6_predictColours_ 210 = .ok (.iconst 4, 1) := by decide +kernel
theorem dX6_predictColours__211 : decode cX6_predictColours_ 211 = .ok (.imul, 1) := by decide +kernel
theorem dX6_predictColours__212 : decode cX6_predictColours_ 212 = .ok (.iadd, 1) := by decide +kernel
theorem dX6_predictColours__213 : decode cX6_predictColours_ 213 = .ok (.iload 9, 2) := by decide +kernel
theorem dX6_predictColours__215 : decode cX6_predictColours_ 215 = .ok (.iconst 4, 1) := by decide +kernel
theorem dX6_predictColours__216 : decode cX6_predictColours_ 216 = .ok (.irem, 1) := by decide +kernel
theorem dX6_predictColours__217 : decode cX6_predictColours_ 217 = .ok (.iadd, 1) := by decide +kernel
theorem dX6_predictColours__218 : decode cX6_predictColours_ 218 = .ok (.iload 8, 2) := by decide +kernel
theorem dX6_predictColours__220 : decode cX6_predictColours_ 220 = .ok (.iastore, 1) := by decide +kernel
theorem dX6_predictColours__221 : decode cX6_predictColours_ 221 = .ok (.iinc 9 1, 3) := by decide +kernel
theorem dX6_predictColours__224 : decode cX6_predictColours_ 224 = .ok (.goto (-46), 3) := by decide +kernel
theorem dX6_predictColours__227 : decode cX6_predictColours_ 227 = .ok (.iinc 7 1, 3) := by decide +kernel
theorem dX6_predictColours__230 : decode cX6_predictColours_ 230 = .ok (.goto (-75), 3) := by decide +kernel
theorem dX6_predictColours__233 : decode cX6_predictColours_ 233 = .ok (.iinc 5 1, 3) := by decide +kernel
theorem dX6_predictColours__236 : decode cX6_predictColours_ 236 = .ok (.goto (-233), 3) := by decide +kernel
theorem dX6_predictColours__239 : decode cX6_predictColours_ 239 = .ok (.return_, 1) := by decide +kernel
def FX6_predictColours_ (G : GG) (M : DD) (a : Nat) (p0 : Option Nat) (p1 : Int32) (p2 : Int32) (p3 : Int32) : Option (DD) :=
  bnd (itr (fun (s2 : Int32 × DD) => ((if ((3 : Int32)) ≤ s2.1 then (some (.inr (s2.1, s2.2))) else
  (ltt ((((64 : Int32)) * s2.1)) fun x6 =>
  ltt ((((192 : Int32)) + x6)) fun x7 =>
  dr G 9 p0 fun b8 =>
  dr G 4 ((s2.2.2 b8 0)) fun b9 =>
  dr G 15 ((s2.2.2 b9 4)) fun b10 =>
  chk (¬ (s2.1 < 0 ∨ G.2.2 b10 ≤ s2.1.toNatClampNeg)) <|
  bnd (FX6_colourAt G s2.2 ((s2.2.2 b8 0)) p1 ((0 : Int32)) ((0 : Int32))) fun y11 =>
  dr G 4 ((y11.1.2 b8 0)) fun b12 =>
  ltt (y11.1.1 b12 1) fun x13 =>
  ltt ((((8 : Int32)) * x13)) fun x14 =>
  bnd (FX6_takeSides G y11.1 a ((s2.2.2 b10 s2.1.toNatClampNeg)) y11.2 x14 ((8 : Int32)) p3) fun y15 =>
  bnd (if p2 = ((3 : Int32)) then (bnd (FX6_fillPlane G y15 a x7 ((8 : Int32)) ((34 : Int32))) fun y67 =>
  some (y67)) else
  (bnd (itr (fun (s20 : Int32 × DD) => ((if ((64 : Int32)) ≤ s20.1 then (some (.inr (s20.1, s20.2))) else
  (ltt (s20.1 - s20.1 / ((8 : Int32)) * ((8 : Int32))) fun x51 =>
  ltt (s20.1 / ((8 : Int32))) fun x52 =>
  ltt ((x7 + s20.1)) fun x53 =>
  bnd (if p2 = ((1 : Int32)) then (ltt ((((10 : Int32)) + x52)) fun x64 =>
  dr G 13 ((s20.2.2 a 8)) fun b65 =>
  chk (¬ (x64 < 0 ∨ G.2.2 b65 ≤ x64.toNatClampNeg)) <|
  ltt (s20.2.1 b65 x64.toNatClampNeg) fun x66 =>
  some (x66)) else
  (bnd (if p2 = ((2 : Int32)) then (ltt ((((1 : Int32)) + x51)) fun x61 =>
  dr G 13 ((s20.2.2 a 8)) fun b62 =>
  chk (¬ (x61 < 0 ∨ G.2.2 b62 ≤ x61.toNatClampNeg)) <|
  ltt (s20.2.1 b62 x61.toNatClampNeg) fun x63 =>
  some (x63)) else
  (some ((0 : Int32)))) fun (y59 : Int32) =>
  some (y59))) fun (y54 : Int32) =>
  dr G 13 ((s20.2.2 a 0)) fun b55 =>
  chk (¬ (x53 < 0 ∨ G.2.2 b55 ≤ x53.toNatClampNeg)) <|
  ltt (uI s20.2 b55 x53.toNatClampNeg y54) fun M56 =>
  ltt (s20.1 + (1 : Int32)) fun x57 =>
  some (.inl (x57, M56)))) : Option ((Int32 × DD) ⊕ (Int32 × DD)))) 1000000 ((0 : Int32), y15)) fun (y19 : Int32 × DD) =>
  bnd (itr (fun (s23 : Int32 × DD) => ((if ((4 : Int32)) ≤ s23.1 then (some (.inr (s23.1, s23.2))) else
  (if p2 = ((0 : Int32)) then (bnd (FX6_colourMean G s23.2 a s23.1 p3) fun y28 =>
  bnd (itr (fun (s30 : Int32 × DD) => ((if ((16 : Int32)) ≤ s30.1 then (some (.inr (s30.1, s30.2))) else
  (ltt (s23.1 / ((2 : Int32))) fun x35 =>
  ltt ((x35 * ((4 : Int32)))) fun x36 =>
  ltt (s30.1 / ((4 : Int32))) fun x37 =>
  ltt ((x36 + x37)) fun x38 =>
  ltt ((x38 * ((8 : Int32)))) fun x39 =>
  ltt ((x7 + x39)) fun x40 =>
  ltt (s23.1 - s23.1 / ((2 : Int32)) * ((2 : Int32))) fun x41 =>
  ltt ((x41 * ((4 : Int32)))) fun x42 =>
  ltt ((x40 + x42)) fun x43 =>
  ltt (s30.1 - s30.1 / ((4 : Int32)) * ((4 : Int32))) fun x44 =>
  ltt ((x43 + x44)) fun x45 =>
  dr G 13 ((s30.2.2 a 0)) fun b46 =>
  chk (¬ (x45 < 0 ∨ G.2.2 b46 ≤ x45.toNatClampNeg)) <|
  ltt (uI s30.2 b46 x45.toNatClampNeg y28.2) fun M47 =>
  ltt (s30.1 + (1 : Int32)) fun x48 =>
  some (.inl (x48, M47)))) : Option ((Int32 × DD) ⊕ (Int32 × DD)))) 1000000 ((0 : Int32), y28.1)) fun (y29 : Int32 × DD) =>
  ltt (s23.1 + (1 : Int32)) fun x32 =>
  some (.inl (x32, y29.2))) else
  (some (.inr (s23.1, s23.2))))) : Option ((Int32 × DD) ⊕ (Int32 × DD)))) 1000000 ((0 : Int32), y19.2)) fun (y22 : Int32 × DD) =>
  some (y22.2))) fun (y16 : DD) =>
  ltt (s2.1 + (1 : Int32)) fun x17 =>
  some (.inl (x17, y16)))) : Option ((Int32 × DD) ⊕ (Int32 × DD)))) 1000000 ((1 : Int32), M)) fun (y1 : Int32 × DD) =>
  some y1.2
set_option maxHeartbeats 4000000 in
set_option maxRecDepth 100000 in
theorem kX6_predictColours_ (l : Launch) (D : va_G) (ct : CT) (ad : Nat → Nat) (Z : Nat → Nat) (G : GG) (M : DD) (sz : Nat) (a : Nat) (p0 : Option Nat) (p1 : Int32) (p2 : Int32) (p3 : Int32) (y : DD) (hc : a < G.1) (hk : G.2.1 a = 6) (hF : FX6_predictColours_ G M a p0 p1 p2 p3 = some y) : Met l yX6_predictColours_ wuX6_predictColours_ ({ frames := 2, cells := 0, slots := 0, locals := 50 }) (va_Pc [.ref (ad a), va_re ad p0, .int p1, .int p2, .int p3] (kB D ct ad Z G M sz)) (va_Qv (fun (_ : Unit) => True) (fun _ t => kE D ct ad G (wA ad G sz) y t) (wA ad G sz)) 0 0 (wA ad G sz) := by
  refine Met.ofW (cc := cX6_predictColours_) (maxL := 10) (ret := none) (by decide) rfl ?_
  intro p e s m args below meth c s₁ B hml hv
  obtain ⟨rfl, hsz, hP, hK, hD0, hZ, hN⟩ := hv
  have hx := B.exec
  have hb := B.bytes
  have hr := B.returns
  have hts := atoms_spec (ws := wuX6_predictColours_) B.pre
  have hown : s.vm.findClass RX6 = some m.cls := findClass_of_methodNamed B.named
  have hlocks := B.notSynchronized
  subst hsz
  have hD := wD_self (sz := s.heap.size) hD0
  have hA9 : ∀ q, s.heap.size ≤ q → wA ad G s.heap.size q := fun q h => Or.inr h
  generalize hAe : wA ad G s.heap.size = A at hD hA9 hZ ⊢
  have hS : va_S A s.heap s.heap [] := va_S.rf
  have hl := lv_entry ([.ref (ad a), va_re ad p0, .int p1, .int p2, .int p3]) (n := 10) (by cases p0 <;> exact Nat.le_of_ble_eq_true rfl)
  rw [lg_entry_eq]
  generalize (lg_sl ([.ref (ad a), va_re ad p0, .int p1, .int p2, .int p3]) ++ List.replicate (10 - (lg_sl ([.ref (ad a), va_re ad p0, .int p1, .int p2, .int p3])).length) Slot.unset).toArray = ls at hl ⊢
  have hl : lv_has ls 10 [(0, .ref (ad a)), (1, va_re ad p0), (2, .int p1), (3, .int p2), (4, .int p3)] := by have e9 : lv_args 0 [.ref (ad a), va_re ad p0, .int p1, .int p2, .int p3] = [(0, .ref (ad a)), (1, va_re ad p0), (2, .int p1), (3, .int p2), (4, .int p3)] := (by cases p0 <;> rfl); rw [e9] at hl; exact hl
  unfold FX6_predictColours_ at hF
  refine lv_iconst (v := (1 : Int32)) hx hb dX6_predictColours__0 (by decide) ?_
  refine lv_istore (lv' := [(5, .int (1 : Int32)), (0, .ref (ad a)), (1, va_re ad p0), (2, .int p1), (3, .int p2), (4, .int p3)]) hx hb dX6_predictColours__1 hl (by decide) rfl (fun ls hl => ?_)
  obtain ⟨y1, hy1, hF⟩ := bnd_some hF
  have K1 : ∀ (H : Heap) (locs : List Loc) (ls : Array Slot), va_P D classes (wld ct ad G y1.2) H → va_D A (wld ct ad G y1.2) → va_S A s.heap H locs → lv_has ls 10 [(5, .int y1.1), (0, .ref (ad a)), (1, va_re ad p0), (2, .int p1), (3, .int p2), (4, .int p3)] → W p l e (headSpec wuX6_predictColours_ ({ frames := 2, cells := 0, slots := 0, locals := 50 })).room s m ([.ref (ad a), va_re ad p0, .int p1, .int p2, .int p3] : List Value).toArray below meth c H locs 0 0 (MQ below (va_Qv (fun (_ : Unit) => True) (fun _ t => kE D ct ad G A y t) A) ([.ref (ad a), va_re ad p0, .int p1, .int p2, .int p3] : List Value).toArray s 0 0 A) (F0 m 239 ls []) := by
    intro H locs ls hP hD hS hl
    obtain rfl := Option.some.inj hF
    exact W.vret hx hb hr (fun t ht hW => ⟨⟨(), rfl, trivial, ⟨by rw [ht]; exact hP, va_K.moved hW.alike hK, hD⟩⟩, hS.F ht⟩) hS.2.2 dX6_predictColours__239
  clear hF
  refine itr_rule (fun (s2 : Int32 × DD) => ∀ (H : Heap) (locs : List Loc) (ls : Array Slot), va_P D classes (wld ct ad G s2.2) H → va_D A (wld ct ad G s2.2) → va_S A s.heap H locs → lv_has ls 10 [(5, .int s2.1), (0, .ref (ad a)), (1, va_re ad p0), (2, .int p1), (3, .int p2), (4, .int p3)] → W p l e (headSpec wuX6_predictColours_ ({ frames := 2, cells := 0, slots := 0, locals := 50 })).room s m ([.ref (ad a), va_re ad p0, .int p1, .int p2, .int p3] : List Value).toArray below meth c H locs 0 0 (MQ below (va_Qv (fun (_ : Unit) => True) (fun _ t => kE D ct ad G A y t) A) ([.ref (ad a), va_re ad p0, .int p1, .int p2, .int p3] : List Value).toArray s 0 0 A) (F0 m 3 ls [])) ?_ _ _ hy1 _ _ _ hP hD hS (lv_sub hl [0, 1, 2, 3, 4, 5] rfl)
  rintro s2 ⟨z4, hF, hwz4⟩ H locs ls hP hD hS hl
  try dsimp only at hF
  refine lv_iload hx hb dX6_predictColours__3 (lv_at hl 0 rfl) ?_
  refine lv_iconst (v := (3 : Int32)) hx hb dX6_predictColours__5 (by decide) ?_
  refine lv_icmp_ge (tgt := 239) hx hb dX6_predictColours__6 (by decide) (fun c5 => ?_) (fun c5 => ?_)
  · rw [if_pos c5] at hF
    obtain rfl := Option.some.inj hF
    subst hwz4
    exact K1 _ _ _ hP hD hS (lv_sub hl [0, 1, 2, 3, 4, 5] rfl)
  · rw [if_neg c5] at hF
    refine lv_sipush (v := (192 : Int32)) hx hb dX6_predictColours__9 (by decide) ?_
    refine lv_bipush (v := (64 : Int32)) hx hb dX6_predictColours__12 (by decide) ?_
    refine lv_iload hx hb dX6_predictColours__14 (lv_at hl 0 rfl) ?_
    refine lv_imul hx hb dX6_predictColours__16 ?_
    obtain ⟨x6, ex6, hF⟩ := ltt_some hF
    refine lv_topi (fun zx6 ezx6 => ?_)
    obtain rfl : x6 = zx6 := ex6.trans ezx6.symm
    refine lv_iadd hx hb dX6_predictColours__17 ?_
    obtain ⟨x7, ex7, hF⟩ := ltt_some hF
    refine lv_topi (fun zx7 ezx7 => ?_)
    obtain rfl : x7 = zx7 := ex7.trans ezx7.symm
    refine lv_istore (lv' := [(6, .int x7), (5, .int s2.1), (0, .ref (ad a)), (1, va_re ad p0), (2, .int p1), (3, .int p2), (4, .int p3)]) hx hb dX6_predictColours__18 hl (by decide) rfl (fun ls hl => ?_)
    refine lv_aload_n hx hb dX6_predictColours__20 rfl (lv_at hl 2 rfl) ?_
    refine lv_aloadq_n hx hb dX6_predictColours__21 rfl (lv_at hl 3 rfl) ?_
    obtain ⟨b8, ho8, hc8, hk8, hF⟩ := dr_some hF
    refine W_st (st' := [.ref (ad b8), .ref (ad a)]) (by rw [va_some ho8]) ?_
    refine va_get (D := D) (ci := 9) (v := va_re ad (s2.2.2 b8 0)) (C := RX9) (T := TX9) (N := 20) hx hb hts (mus hf_X9) hown hK hP b8 (wld_o ct ad G s2.2 hc8 hk8 (by decide)) rfl 0 (by decide) (hts (.fieldLink RX6 46 "VideoSuite$Work" "pic" "LVideoSuite$Picture;") (mu mw_421)) (fun _ h9 => h9) rfl dX6_predictColours__22 ?_
    obtain ⟨b9, ho9, hc9, hk9, hF⟩ := dr_some hF
    refine W_st (st' := [.ref (ad b9), .ref (ad a)]) (by rw [va_some ho9]) ?_
    refine va_get (D := D) (ci := 4) (v := va_re ad (s2.2.2 b9 4)) (C := RX4) (T := TX4) (N := 18) hx hb hts (mus hf_X4) hown hK hP b9 (wld_o ct ad G s2.2 hc9 hk9 (by decide)) rfl 4 (by decide) (hts (.fieldLink RX6 121 "VideoSuite$Picture" "plane" "[[I") (mu mw_1433)) (fun _ h9 => h9) rfl dX6_predictColours__25 ?_
    refine lv_iload hx hb dX6_predictColours__28 (lv_at hl 1 rfl) ?_
    obtain ⟨b10, ho10, hc10, hk10, hF⟩ := dr_some hF
    refine W_st (st' := [.int s2.1, .ref (ad b10), .ref (ad a)]) (by rw [va_some ho10]) ?_
    obtain ⟨hvc, hF⟩ := chk_some hF
    refine ld_g hx hb hK hP hc10 hk10 hvc dX6_predictColours__30 ?_
    refine lv_aloadq_n hx hb dX6_predictColours__31 rfl (lv_at hl 3 rfl) ?_
    refine W_st (st' := [.ref (ad b8), va_re ad (s2.2.2 b10 s2.1.toNatClampNeg), .ref (ad a)]) (by rw [va_some ho8]) ?_
    refine va_get (D := D) (ci := 9) (v := va_re ad (s2.2.2 b8 0)) (C := RX9) (T := TX9) (N := 20) hx hb hts (mus hf_X9) hown hK hP b8 (wld_o ct ad G s2.2 hc8 hk8 (by decide)) rfl 0 (by decide) (hts (.fieldLink RX6 46 "VideoSuite$Work" "pic" "LVideoSuite$Picture;") (mu mw_421)) (fun _ h9 => h9) rfl dX6_predictColours__32 ?_
    refine lv_iload_n hx hb dX6_predictColours__35 rfl (lv_at hl 4 rfl) ?_
    refine lv_iconst (v := (0 : Int32)) hx hb dX6_predictColours__36 (by decide) ?_
    refine lv_iconst (v := (0 : Int32)) hx hb dX6_predictColours__37 (by decide) ?_
    obtain ⟨y11, hy11, hF⟩ := bnd_some hF
    have hf9 := wA_in hD hA9 hS
    refine va_calli (va_runS (As := [va_re ad (s2.2.2 b8 0), .int p1, .int (0 : Int32), .int (0 : Int32)]) (rest := [va_re ad (s2.2.2 b10 s2.1.toNatClampNeg), .ref (ad a)]) ⟨hx, hb, hml, hown, hts⟩ (kX6_colourAt l D ct ad Z G s2.2 H.size ((s2.2.2 b8 0)) p1 ((0 : Int32)) ((0 : Int32)) y11 hy11) (va_cwS 4 hts gX6_predictColours__X6_colourAt rfl rfl rfl (by decide +kernel) ⟨Nat.le_of_ble_eq_true rfl, Nat.le_of_ble_eq_true rfl⟩) ⟨fun a U g mk q => by obtain ⟨q0, q1, qP, qK, qD, qZ, qN⟩ := q; exact ⟨q0, q1, qP, va_K.moved (u := U) (U := U.calling g mk a) (Vm.Alike.refl U.vm) qK, qD, sF.moved (u := U) (U := U.calling g mk a) (Vm.Alike.refl U.vm) qZ, nF.same rfl qN⟩, fun U hU hW => ⟨rfl, by rw [hU], by rw [hU]; exact hP, va_K.moved hW.alike hK, hD.weaken (fun _ _ _ _ => trivial), by rw [hU]; exact ((hZ.kept hS.2.1).narrow hf9).moved hW.alike, hN.warm hW⟩⟩ rfl rfl hl.1 rfl (lv_room (by simp only [List.map, va_re_cat]; exact Nat.le_of_ble_eq_true rfl)) dX6_predictColours__38 ⟨(Nat.zero_le _), (Nat.zero_le _)⟩) hS (fun q _ h => hf9 q h) hf9 (fun r u t H locs ht hvm hw hB hz1 hk1 hS => ?_)
    obtain ⟨hP, hK9, hD9⟩ := hB
    rw [ht] at hP
    try dsimp only at hw
    subst hw
    have hD := hD9.weaken (fun _ q _ h => hf9 q.1 h)
    refine lv_bipush (v := (8 : Int32)) hx hb dX6_predictColours__41 (by decide) ?_
    refine lv_aloadq_n hx hb dX6_predictColours__43 rfl (lv_at hl 3 rfl) ?_
    refine W_st (st' := [.ref (ad b8), .int (8 : Int32), .int y11.2, va_re ad (s2.2.2 b10 s2.1.toNatClampNeg), .ref (ad a)]) (by rw [va_some ho8]) ?_
    refine va_get (D := D) (ci := 9) (v := va_re ad (y11.1.2 b8 0)) (C := RX9) (T := TX9) (N := 20) hx hb hts (mus hf_X9) hown hK hP b8 (wld_o ct ad G y11.1 hc8 hk8 (by decide)) rfl 0 (by decide) (hts (.fieldLink RX6 46 "VideoSuite$Work" "pic" "LVideoSuite$Picture;") (mu mw_421)) (fun _ h9 => h9) rfl dX6_predictColours__44 ?_
    obtain ⟨b12, ho12, hc12, hk12, hF⟩ := dr_some hF
    refine W_st (st' := [.ref (ad b12), .int (8 : Int32), .int y11.2, va_re ad (s2.2.2 b10 s2.1.toNatClampNeg), .ref (ad a)]) (by rw [va_some ho12]) ?_
    refine va_get (D := D) (ci := 4) (v := .int (y11.1.1 b12 1)) (C := RX4) (T := TX4) (N := 18) hx hb hts (mus hf_X4) hown hK hP b12 (wld_o ct ad G y11.1 hc12 hk12 (by decide)) rfl 1 (by decide) (hts (.fieldLink RX6 83 "VideoSuite$Picture" "width" "I") (mu mw_1422)) (fun _ h9 => h9) rfl dX6_predictColours__47 ?_
    obtain ⟨x13, ex13, hF⟩ := ltt_some hF
    refine lv_topi (fun zx13 ezx13 => ?_)
    obtain rfl : x13 = zx13 := ex13.trans ezx13.symm
    refine lv_imul hx hb dX6_predictColours__50 ?_
    obtain ⟨x14, ex14, hF⟩ := ltt_some hF
    refine lv_topi (fun zx14 ezx14 => ?_)
    obtain rfl : x14 = zx14 := ex14.trans ezx14.symm
    refine lv_bipush (v := (8 : Int32)) hx hb dX6_predictColours__51 (by decide) ?_
    refine lv_iload hx hb dX6_predictColours__53 (lv_at hl 6 rfl) ?_
    obtain ⟨y15, hy15, hF⟩ := bnd_some hF
    have hf9 := wA_in hD hA9 hS
    refine va_callv (va_runV (As := [va_re ad (s2.2.2 b10 s2.1.toNatClampNeg), .int y11.2, .int x14, .int (8 : Int32), .int p3]) (rest := []) ⟨hx, hb, hml, hown, hts⟩ (kX6_takeSides l D ct ad Z G y11.1 H.size a ((s2.2.2 b10 s2.1.toNatClampNeg)) y11.2 x14 ((8 : Int32)) p3 y15 hc hk hy15) (cwV 5 hts gX6_predictColours__X6_takeSides rfl rfl rfl (by decide +kernel) ⟨Nat.le_of_ble_eq_true rfl, Nat.le_of_ble_eq_true rfl⟩) ⟨fun a U g mk q => by obtain ⟨q0, q1, qP, qK, qD, qZ, qN⟩ := q; exact ⟨q0, q1, qP, va_K.moved (u := U) (U := U.calling g mk a) (Vm.Alike.refl U.vm) qK, qD, sF.moved (u := U) (U := U.calling g mk a) (Vm.Alike.refl U.vm) qZ, nF.same rfl qN⟩, va_recv hK hP (ci := 6) (q0 := a) rfl (wld_o ct ad G y11.1 hc hk (by decide)), fun U hU hW => ⟨rfl, by rw [hU], by rw [hU]; exact hP, va_K.moved hW.alike hK, hD.weaken (fun _ _ _ _ => trivial), by rw [hU]; exact ((hZ.kept hS.2.1).narrow hf9).moved hW.alike, hN.warm hW⟩⟩ rfl rfl hl.1 rfl (lv_room (Nat.le_of_ble_eq_true rfl)) dX6_predictColours__55 ⟨(Nat.zero_le _), (Nat.zero_le _)⟩) hS (fun q _ h => hf9 q h) hf9 (fun u t H locs ht hvm hw hB hz1 hk1 hS => ?_)
    obtain ⟨hP, hK9, hD9⟩ := hB
    rw [ht] at hP
    have hD := hD9.weaken (fun _ q _ h => hf9 q.1 h)
    refine lv_iload_n hx hb dX6_predictColours__58 rfl (lv_at hl 5 rfl) ?_
    refine lv_iconst (v := (3 : Int32)) hx hb dX6_predictColours__59 (by decide) ?_
    obtain ⟨y16, hy16, hF⟩ := bnd_some hF
    have J16 : ∀ (H : Heap) (locs : List Loc) (ls : Array Slot), va_P D classes (wld ct ad G y16) H → va_D A (wld ct ad G y16) → va_S A s.heap H locs → lv_has ls 10 [(6, .int x7), (5, .int s2.1), (0, .ref (ad a)), (1, va_re ad p0), (2, .int p1), (3, .int p2), (4, .int p3)] → W p l e (headSpec wuX6_predictColours_ ({ frames := 2, cells := 0, slots := 0, locals := 50 })).room s m ([.ref (ad a), va_re ad p0, .int p1, .int p2, .int p3] : List Value).toArray below meth c H locs 0 0 (MQ below (va_Qv (fun (_ : Unit) => True) (fun _ t => kE D ct ad G A y t) A) ([.ref (ad a), va_re ad p0, .int p1, .int p2, .int p3] : List Value).toArray s 0 0 A) (F0 m 233 ls []) := by
      intro H locs ls hP hD hS hl
      obtain ⟨x17, ex17, hF⟩ := ltt_some hF
      refine lv_iinc (v := x17) (lv' := [(5, .int x17), (6, .int x7), (0, .ref (ad a)), (1, va_re ad p0), (2, .int p1), (3, .int p2), (4, .int p3)]) hx hb dX6_predictColours__233 hl (k := 1) rfl (by rw [ex17]; rfl) (by decide) rfl (fun ls hl => ?_)
      refine lv_goto (tgt := 3) hx hb dX6_predictColours__236 (by decide) ?_
      obtain rfl := Option.some.inj hF
      exact hwz4 _ _ _ hP hD hS (lv_sub hl [0, 2, 3, 4, 5, 6] rfl)
    clear hF
    have hF := hy16
    clear hy16
    refine lv_icmp_ne (tgt := 76) hx hb dX6_predictColours__60 (by decide) (fun c18 => ?_) (fun c18 => ?_)
    · rw [if_neg c18] at hF
      refine lv_iconst (v := (0 : Int32)) hx hb dX6_predictColours__76 (by decide) ?_
      refine lv_istore (lv' := [(7, .int (0 : Int32)), (6, .int x7), (5, .int s2.1), (0, .ref (ad a)), (1, va_re ad p0), (2, .int p1), (3, .int p2), (4, .int p3)]) hx hb dX6_predictColours__77 hl (by decide) rfl (fun ls hl => ?_)
      obtain ⟨y19, hy19, hF⟩ := bnd_some hF
      have K19 : ∀ (H : Heap) (locs : List Loc) (ls : Array Slot), va_P D classes (wld ct ad G y19.2) H → va_D A (wld ct ad G y19.2) → va_S A s.heap H locs → lv_has ls 10 [(7, .int y19.1), (6, .int x7), (5, .int s2.1), (0, .ref (ad a)), (1, va_re ad p0), (2, .int p1), (3, .int p2), (4, .int p3)] → W p l e (headSpec wuX6_predictColours_ ({ frames := 2, cells := 0, slots := 0, locals := 50 })).room s m ([.ref (ad a), va_re ad p0, .int p1, .int p2, .int p3] : List Value).toArray below meth c H locs 0 0 (MQ below (va_Qv (fun (_ : Unit) => True) (fun _ t => kE D ct ad G A y t) A) ([.ref (ad a), va_re ad p0, .int p1, .int p2, .int p3] : List Value).toArray s 0 0 A) (F0 m 152 ls []) := by
        intro H locs ls hP hD hS hl
        refine lv_iconst (v := (0 : Int32)) hx hb dX6_predictColours__152 (by decide) ?_
        refine lv_istore (lv' := [(7, .int (0 : Int32)), (6, .int x7), (5, .int s2.1), (0, .ref (ad a)), (1, va_re ad p0), (2, .int p1), (3, .int p2), (4, .int p3)]) hx hb dX6_predictColours__153 hl (by decide) rfl (fun ls hl => ?_)
        obtain ⟨y22, hy22, hF⟩ := bnd_some hF
        have K22 : ∀ (H : Heap) (locs : List Loc) (ls : Array Slot), va_P D classes (wld ct ad G y22.2) H → va_D A (wld ct ad G y22.2) → va_S A s.heap H locs → lv_has ls 10 [(7, .int y22.1), (6, .int x7), (5, .int s2.1), (0, .ref (ad a)), (1, va_re ad p0), (2, .int p1), (3, .int p2), (4, .int p3)] → W p l e (headSpec wuX6_predictColours_ ({ frames := 2, cells := 0, slots := 0, locals := 50 })).room s m ([.ref (ad a), va_re ad p0, .int p1, .int p2, .int p3] : List Value).toArray below meth c H locs 0 0 (MQ below (va_Qv (fun (_ : Unit) => True) (fun _ t => kE D ct ad G A y t) A) ([.ref (ad a), va_re ad p0, .int p1, .int p2, .int p3] : List Value).toArray s 0 0 A) (F0 m 233 ls []) := by
          intro H locs ls hP hD hS hl
          obtain rfl := Option.some.inj hF
          exact J16 _ _ _ hP hD hS (lv_sub hl [1, 2, 3, 4, 5, 6, 7] rfl)
        clear hF
        refine itr_rule (fun (s23 : Int32 × DD) => ∀ (H : Heap) (locs : List Loc) (ls : Array Slot), va_P D classes (wld ct ad G s23.2) H → va_D A (wld ct ad G s23.2) → va_S A s.heap H locs → lv_has ls 10 [(7, .int s23.1), (6, .int x7), (5, .int s2.1), (0, .ref (ad a)), (1, va_re ad p0), (2, .int p1), (3, .int p2), (4, .int p3)] → W p l e (headSpec wuX6_predictColours_ ({ frames := 2, cells := 0, slots := 0, locals := 50 })).room s m ([.ref (ad a), va_re ad p0, .int p1, .int p2, .int p3] : List Value).toArray below meth c H locs 0 0 (MQ below (va_Qv (fun (_ : Unit) => True) (fun _ t => kE D ct ad G A y t) A) ([.ref (ad a), va_re ad p0, .int p1, .int p2, .int p3] : List Value).toArray s 0 0 A) (F0 m 155 ls [])) ?_ _ _ hy22 _ _ _ hP hD hS (lv_sub hl [0, 1, 2, 3, 4, 5, 6, 7] rfl)
        rintro s23 ⟨z25, hF, hwz25⟩ H locs ls hP hD hS hl
        try dsimp only at hF
        refine lv_iload hx hb dX6_predictColours__155 (lv_at hl 0 rfl) ?_
        refine lv_iconst (v := (4 : Int32)) hx hb dX6_predictColours__157 (by decide) ?_
        refine lv_icmp_ge (tgt := 233) hx hb dX6_predictColours__158 (by decide) (fun c26 => ?_) (fun c26 => ?_)
        · rw [if_pos c26] at hF
          obtain rfl := Option.some.inj hF
          subst hwz25
          exact K22 _ _ _ hP hD hS (lv_sub hl [0, 1, 2, 3, 4, 5, 6, 7] rfl)
        · rw [if_neg c26] at hF
          refine lv_iload_n hx hb dX6_predictColours__161 rfl (lv_at hl 6 rfl) ?_
          refine lv_if_ne (tgt := 233) hx hb dX6_predictColours__162 (by decide) (fun c27 => ?_) (fun c27 => ?_)
          · rw [if_neg c27] at hF
            obtain rfl := Option.some.inj hF
            subst hwz25
            exact K22 _ _ _ hP hD hS (lv_sub hl [0, 1, 2, 3, 4, 5, 6, 7] rfl)
          · rw [if_pos c27] at hF
            refine lv_aload_n hx hb dX6_predictColours__165 rfl (lv_at hl 3 rfl) ?_
            refine lv_iload hx hb dX6_predictColours__166 (lv_at hl 0 rfl) ?_
            refine lv_iload hx hb dX6_predictColours__168 (lv_at hl 7 rfl) ?_
            obtain ⟨y28, hy28, hF⟩ := bnd_some hF
            have hf9 := wA_in hD hA9 hS
            refine va_calli (va_runV (As := [.int s23.1, .int p3]) (rest := []) ⟨hx, hb, hml, hown, hts⟩ (kX6_colourMean l D ct ad Z G s23.2 H.size a s23.1 p3 y28 hc hk hy28) (cwV 2 hts gX6_predictColours__X6_colourMean rfl rfl rfl (by decide +kernel) ⟨Nat.le_of_ble_eq_true rfl, Nat.le_of_ble_eq_true rfl⟩) ⟨fun a U g mk q => by obtain ⟨q0, q1, qP, qK, qD, qZ, qN⟩ := q; exact ⟨q0, q1, qP, va_K.moved (u := U) (U := U.calling g mk a) (Vm.Alike.refl U.vm) qK, qD, sF.moved (u := U) (U := U.calling g mk a) (Vm.Alike.refl U.vm) qZ, nF.same rfl qN⟩, va_recv hK hP (ci := 6) (q0 := a) rfl (wld_o ct ad G s23.2 hc hk (by decide)), fun U hU hW => ⟨rfl, by rw [hU], by rw [hU]; exact hP, va_K.moved hW.alike hK, hD.weaken (fun _ _ _ _ => trivial), by rw [hU]; exact ((hZ.kept hS.2.1).narrow hf9).moved hW.alike, hN.warm hW⟩⟩ rfl rfl hl.1 rfl (lv_room (Nat.le_of_ble_eq_true rfl)) dX6_predictColours__170 ⟨(Nat.zero_le _), (Nat.zero_le _)⟩) hS (fun q _ h => hf9 q h) hf9 (fun r u t H locs ht hvm hw hB hz1 hk1 hS => ?_)
            obtain ⟨hP, hK9, hD9⟩ := hB
            rw [ht] at hP
            try dsimp only at hw
            subst hw
            have hD := hD9.weaken (fun _ q _ h => hf9 q.1 h)
            refine lv_istore (lv' := [(8, .int y28.2), (7, .int s23.1), (6, .int x7), (5, .int s2.1), (0, .ref (ad a)), (1, va_re ad p0), (2, .int p1), (3, .int p2), (4, .int p3)]) hx hb dX6_predictColours__173 hl (by decide) rfl (fun ls hl => ?_)
            refine lv_iconst (v := (0 : Int32)) hx hb dX6_predictColours__175 (by decide) ?_
            refine lv_istore (lv' := [(9, .int (0 : Int32)), (8, .int y28.2), (7, .int s23.1), (6, .int x7), (5, .int s2.1), (0, .ref (ad a)), (1, va_re ad p0), (2, .int p1), (3, .int p2), (4, .int p3)]) hx hb dX6_predictColours__176 hl (by decide) rfl (fun ls hl => ?_)
            obtain ⟨y29, hy29, hF⟩ := bnd_some hF
            have K29 : ∀ (H : Heap) (locs : List Loc) (ls : Array Slot), va_P D classes (wld ct ad G y29.2) H → va_D A (wld ct ad G y29.2) → va_S A s.heap H locs → lv_has ls 10 [(9, .int y29.1), (8, .int y28.2), (7, .int s23.1), (6, .int x7), (5, .int s2.1), (0, .ref (ad a)), (1, va_re ad p0), (2, .int p1), (3, .int p2), (4, .int p3)] → W p l e (headSpec wuX6_predictColours_ ({ frames := 2, cells := 0, slots := 0, locals := 50 })).room s m ([.ref (ad a), va_re ad p0, .int p1, .int p2, .int p3] : List Value).toArray below meth c H locs 0 0 (MQ below (va_Qv (fun (_ : Unit) => True) (fun _ t => kE D ct ad G A y t) A) ([.ref (ad a), va_re ad p0, .int p1, .int p2, .int p3] : List Value).toArray s 0 0 A) (F0 m 227 ls []) := by
              intro H locs ls hP hD hS hl
              obtain ⟨x32, ex32, hF⟩ := ltt_some hF
              refine lv_iinc (v := x32) (lv' := [(7, .int x32), (9, .int y29.1), (8, .int y28.2), (6, .int x7), (5, .int s2.1), (0, .ref (ad a)), (1, va_re ad p0), (2, .int p1), (3, .int p2), (4, .int p3)]) hx hb dX6_predictColours__227 hl (k := 2) rfl (by rw [ex32]; rfl) (by decide) rfl (fun ls hl => ?_)
              refine lv_goto (tgt := 155) hx hb dX6_predictColours__230 (by decide) ?_
              obtain rfl := Option.some.inj hF
              exact hwz25 _ _ _ hP hD hS (lv_sub hl [0, 3, 4, 5, 6, 7, 8, 9] rfl)
            clear hF
            refine itr_rule (fun (s30 : Int32 × DD) => ∀ (H : Heap) (locs : List Loc) (ls : Array Slot), va_P D classes (wld ct ad G s30.2) H → va_D A (wld ct ad G s30.2) → va_S A s.heap H locs → lv_has ls 10 [(9, .int s30.1), (8, .int y28.2), (7, .int s23.1), (6, .int x7), (5, .int s2.1), (0, .ref (ad a)), (1, va_re ad p0), (2, .int p1), (3, .int p2), (4, .int p3)] → W p l e (headSpec wuX6_predictColours_ ({ frames := 2, cells := 0, slots := 0, locals := 50 })).room s m ([.ref (ad a), va_re ad p0, .int p1, .int p2, .int p3] : List Value).toArray below meth c H locs 0 0 (MQ below (va_Qv (fun (_ : Unit) => True) (fun _ t => kE D ct ad G A y t) A) ([.ref (ad a), va_re ad p0, .int p1, .int p2, .int p3] : List Value).toArray s 0 0 A) (F0 m 178 ls [])) ?_ _ _ hy29 _ _ _ hP hD hS (lv_sub hl [0, 1, 2, 3, 4, 5, 6, 7, 8, 9] rfl)
            rintro s30 ⟨z33, hF, hwz33⟩ H locs ls hP hD hS hl
            try dsimp only at hF
            refine lv_iload hx hb dX6_predictColours__178 (lv_at hl 0 rfl) ?_
            refine lv_bipush (v := (16 : Int32)) hx hb dX6_predictColours__180 (by decide) ?_
            refine lv_icmp_ge (tgt := 227) hx hb dX6_predictColours__182 (by decide) (fun c34 => ?_) (fun c34 => ?_)
            · rw [if_pos c34] at hF
              obtain rfl := Option.some.inj hF
              subst hwz33
              exact K29 _ _ _ hP hD hS (lv_sub hl [0, 1, 2, 3, 4, 5, 6, 7, 8, 9] rfl)
            · rw [if_neg c34] at hF
              refine lv_aload_n hx hb dX6_predictColours__185 rfl (lv_at hl 5 rfl) ?_
              refine va_get (D := D) (ci := 6) (v := va_re ad (s30.2.2 a 0)) (C := RX6) (T := TX6) (N := 14) hx hb hts (mus hf_X6) hown hK hP a (wld_o ct ad G s30.2 hc hk (by decide)) rfl 0 (by decide) (hts (.fieldLink RX6 9 "VideoSuite$Samples" "guess" "[I") (mu mw_533)) (fun _ h9 => h9) rfl dX6_predictColours__186 ?_
              refine lv_iload hx hb dX6_predictColours__189 (lv_at hl 3 rfl) ?_
              refine lv_iload hx hb dX6_predictColours__191 (lv_at hl 2 rfl) ?_
              refine lv_iconst (v := (2 : Int32)) hx hb dX6_predictColours__193 (by decide) ?_
              refine lv_idiv hx hb dX6_predictColours__194 (by decide) ?_
              obtain ⟨x35, ex35, hF⟩ := ltt_some hF
              refine lv_topi (fun zx35 ezx35 => ?_)
              obtain rfl : x35 = zx35 := ex35.trans ezx35.symm
              refine lv_iconst (v := (4 : Int32)) hx hb dX6_predictColours__195 (by decide) ?_
              refine lv_imul hx hb dX6_predictColours__196 ?_
              obtain ⟨x36, ex36, hF⟩ := ltt_some hF
              refine lv_topi (fun zx36 ezx36 => ?_)
              obtain rfl : x36 = zx36 := ex36.trans ezx36.symm
              refine lv_iload hx hb dX6_predictColours__197 (lv_at hl 0 rfl) ?_
              refine lv_iconst (v := (4 : Int32)) hx hb dX6_predictColours__199 (by decide) ?_
              refine lv_idiv hx hb dX6_predictColours__200 (by decide) ?_
              obtain ⟨x37, ex37, hF⟩ := ltt_some hF
              refine lv_topi (fun zx37 ezx37 => ?_)
              obtain rfl : x37 = zx37 := ex37.trans ezx37.symm
              refine lv_iadd hx hb dX6_predictColours__201 ?_
              obtain ⟨x38, ex38, hF⟩ := ltt_some hF
              refine lv_topi (fun zx38 ezx38 => ?_)
              obtain rfl : x38 = zx38 := ex38.trans ezx38.symm
              refine lv_bipush (v := (8 : Int32)) hx hb dX6_predictColours__202 (by decide) ?_
              refine lv_imul hx hb dX6_predictColours__204 ?_
              obtain ⟨x39, ex39, hF⟩ := ltt_some hF
              refine lv_topi (fun zx39 ezx39 => ?_)
              obtain rfl : x39 = zx39 := ex39.trans ezx39.symm
              refine lv_iadd hx hb dX6_predictColours__205 ?_
              obtain ⟨x40, ex40, hF⟩ := ltt_some hF
              refine lv_topi (fun zx40 ezx40 => ?_)
              obtain rfl : x40 = zx40 := ex40.trans ezx40.symm
              refine lv_iload hx hb dX6_predictColours__206 (lv_at hl 2 rfl) ?_
              refine lv_iconst (v := (2 : Int32)) hx hb dX6_predictColours__208 (by decide) ?_
              refine lv_irem hx hb dX6_predictColours__209 (by decide) ?_
              obtain ⟨x41, ex41, hF⟩ := ltt_some hF
              refine lv_topi (fun zx41 ezx41 => ?_)
              obtain rfl : x41 = zx41 := ex41.trans ezx41.symm
              refine lv_iconst (v := (4 : Int32)) hx hb dX6_predictColours__210 (by decide) ?_
              refine lv_imul hx hb dX6_predictColours__211 ?_
              obtain ⟨x42, ex42, hF⟩ := ltt_some hF
              refine lv_topi (fun zx42 ezx42 => ?_)
              obtain rfl : x42 = zx42 := ex42.trans ezx42.symm
              refine lv_iadd hx hb dX6_predictColours__212 ?_
              obtain ⟨x43, ex43, hF⟩ := ltt_some hF
              refine lv_topi (fun zx43 ezx43 => ?_)
              obtain rfl : x43 = zx43 := ex43.trans ezx43.symm
              refine lv_iload hx hb dX6_predictColours__213 (lv_at hl 0 rfl) ?_
              refine lv_iconst (v := (4 : Int32)) hx hb dX6_predictColours__215 (by decide) ?_
              refine lv_irem hx hb dX6_predictColours__216 (by decide) ?_
              obtain ⟨x44, ex44, hF⟩ := ltt_some hF
              refine lv_topi (fun zx44 ezx44 => ?_)
              obtain rfl : x44 = zx44 := ex44.trans ezx44.symm
              refine lv_iadd hx hb dX6_predictColours__217 ?_
              obtain ⟨x45, ex45, hF⟩ := ltt_some hF
              refine lv_topi (fun zx45 ezx45 => ?_)
              obtain rfl : x45 = zx45 := ex45.trans ezx45.symm
              refine lv_iload hx hb dX6_predictColours__218 (lv_at hl 1 rfl) ?_
              obtain ⟨b46, ho46, hc46, hk46, hF⟩ := dr_some hF
              refine W_st (st' := [.int y28.2, .int x45, .ref (ad b46)]) (by rw [va_some ho46]) ?_
              obtain ⟨hvc, hF⟩ := chk_some hF
              refine va_iast hx hb hK hP hD hS b46 1 (wld_i ct ad G s30.2 hc46 hk46) rfl hvc dX6_predictColours__220 (fun H locs hP hD hS => ?_)
              obtain ⟨M47, eM47, hF⟩ := ltt_some hF
              rw [set_i ct ad G s30.2 hc46 hk46, ← eM47] at hP hD
              obtain ⟨x48, ex48, hF⟩ := ltt_some hF
              refine lv_iinc (v := x48) (lv' := [(9, .int x48), (8, .int y28.2), (7, .int s23.1), (6, .int x7), (5, .int s2.1), (0, .ref (ad a)), (1, va_re ad p0), (2, .int p1), (3, .int p2), (4, .int p3)]) hx hb dX6_predictColours__221 hl (k := 0) rfl (by rw [ex48]; rfl) (by decide) rfl (fun ls hl => ?_)
              refine lv_goto (tgt := 178) hx hb dX6_predictColours__224 (by decide) ?_
              obtain rfl := Option.some.inj hF
              exact hwz33 _ _ _ hP hD hS (lv_sub hl [0, 1, 2, 3, 4, 5, 6, 7, 8, 9] rfl)
      clear hF
      refine itr_rule (fun (s20 : Int32 × DD) => ∀ (H : Heap) (locs : List Loc) (ls : Array Slot), va_P D classes (wld ct ad G s20.2) H → va_D A (wld ct ad G s20.2) → va_S A s.heap H locs → lv_has ls 10 [(7, .int s20.1), (6, .int x7), (5, .int s2.1), (0, .ref (ad a)), (1, va_re ad p0), (2, .int p1), (3, .int p2), (4, .int p3)] → W p l e (headSpec wuX6_predictColours_ ({ frames := 2, cells := 0, slots := 0, locals := 50 })).room s m ([.ref (ad a), va_re ad p0, .int p1, .int p2, .int p3] : List Value).toArray below meth c H locs 0 0 (MQ below (va_Qv (fun (_ : Unit) => True) (fun _ t => kE D ct ad G A y t) A) ([.ref (ad a), va_re ad p0, .int p1, .int p2, .int p3] : List Value).toArray s 0 0 A) (F0 m 79 ls [])) ?_ _ _ hy19 _ _ _ hP hD hS (lv_sub hl [0, 1, 2, 3, 4, 5, 6, 7] rfl)
      rintro s20 ⟨z49, hF, hwz49⟩ H locs ls hP hD hS hl
      try dsimp only at hF
      refine lv_iload hx hb dX6_predictColours__79 (lv_at hl 0 rfl) ?_
      refine lv_bipush (v := (64 : Int32)) hx hb dX6_predictColours__81 (by decide) ?_
      refine lv_icmp_ge (tgt := 152) hx hb dX6_predictColours__83 (by decide) (fun c50 => ?_) (fun c50 => ?_)
      · rw [if_pos c50] at hF
        obtain rfl := Option.some.inj hF
        subst hwz49
        exact K19 _ _ _ hP hD hS (lv_sub hl [0, 1, 2, 3, 4, 5, 6, 7] rfl)
      · rw [if_neg c50] at hF
        refine lv_iload hx hb dX6_predictColours__86 (lv_at hl 0 rfl) ?_
        refine lv_bipush (v := (8 : Int32)) hx hb dX6_predictColours__88 (by decide) ?_
        refine lv_irem hx hb dX6_predictColours__90 (by decide) ?_
        obtain ⟨x51, ex51, hF⟩ := ltt_some hF
        refine lv_topi (fun zx51 ezx51 => ?_)
        obtain rfl : x51 = zx51 := ex51.trans ezx51.symm
        refine lv_istore (lv' := [(8, .int x51), (7, .int s20.1), (6, .int x7), (5, .int s2.1), (0, .ref (ad a)), (1, va_re ad p0), (2, .int p1), (3, .int p2), (4, .int p3)]) hx hb dX6_predictColours__91 hl (by decide) rfl (fun ls hl => ?_)
        refine lv_iload hx hb dX6_predictColours__93 (lv_at hl 1 rfl) ?_
        refine lv_bipush (v := (8 : Int32)) hx hb dX6_predictColours__95 (by decide) ?_
        refine lv_idiv hx hb dX6_predictColours__97 (by decide) ?_
        obtain ⟨x52, ex52, hF⟩ := ltt_some hF
        refine lv_topi (fun zx52 ezx52 => ?_)
        obtain rfl : x52 = zx52 := ex52.trans ezx52.symm
        refine lv_istore (lv' := [(9, .int x52), (8, .int x51), (7, .int s20.1), (6, .int x7), (5, .int s2.1), (0, .ref (ad a)), (1, va_re ad p0), (2, .int p1), (3, .int p2), (4, .int p3)]) hx hb dX6_predictColours__98 hl (by decide) rfl (fun ls hl => ?_)
        refine lv_aload_n hx hb dX6_predictColours__100 rfl (lv_at hl 5 rfl) ?_
        refine va_get (D := D) (ci := 6) (v := va_re ad (s20.2.2 a 0)) (C := RX6) (T := TX6) (N := 14) hx hb hts (mus hf_X6) hown hK hP a (wld_o ct ad G s20.2 hc hk (by decide)) rfl 0 (by decide) (hts (.fieldLink RX6 9 "VideoSuite$Samples" "guess" "[I") (mu mw_533)) (fun _ h9 => h9) rfl dX6_predictColours__101 ?_
        refine lv_iload hx hb dX6_predictColours__104 (lv_at hl 3 rfl) ?_
        refine lv_iload hx hb dX6_predictColours__106 (lv_at hl 2 rfl) ?_
        refine lv_iadd hx hb dX6_predictColours__108 ?_
        obtain ⟨x53, ex53, hF⟩ := ltt_some hF
        refine lv_topi (fun zx53 ezx53 => ?_)
        obtain rfl : x53 = zx53 := ex53.trans ezx53.symm
        refine lv_iload_n hx hb dX6_predictColours__109 rfl (lv_at hl 8 rfl) ?_
        refine lv_iconst (v := (1 : Int32)) hx hb dX6_predictColours__110 (by decide) ?_
        obtain ⟨y54, hy54, hF⟩ := bnd_some hF
        have J54 : ∀ (H : Heap) (locs : List Loc) (ls : Array Slot), va_P D classes (wld ct ad G s20.2) H → va_D A (wld ct ad G s20.2) → va_S A s.heap H locs → lv_has ls 10 [(9, .int x52), (8, .int x51), (7, .int s20.1), (6, .int x7), (5, .int s2.1), (0, .ref (ad a)), (1, va_re ad p0), (2, .int p1), (3, .int p2), (4, .int p3)] → W p l e (headSpec wuX6_predictColours_ ({ frames := 2, cells := 0, slots := 0, locals := 50 })).room s m ([.ref (ad a), va_re ad p0, .int p1, .int p2, .int p3] : List Value).toArray below meth c H locs 0 0 (MQ below (va_Qv (fun (_ : Unit) => True) (fun _ t => kE D ct ad G A y t) A) ([.ref (ad a), va_re ad p0, .int p1, .int p2, .int p3] : List Value).toArray s 0 0 A) (F0 m 145 ls [.int y54, .int x53, va_re ad (s20.2.2 a 0)]) := by
          intro H locs ls hP hD hS hl
          obtain ⟨b55, ho55, hc55, hk55, hF⟩ := dr_some hF
          refine W_st (st' := [.int y54, .int x53, .ref (ad b55)]) (by rw [va_some ho55]) ?_
          obtain ⟨hvc, hF⟩ := chk_some hF
          refine va_iast hx hb hK hP hD hS b55 1 (wld_i ct ad G s20.2 hc55 hk55) rfl hvc dX6_predictColours__145 (fun H locs hP hD hS => ?_)
          obtain ⟨M56, eM56, hF⟩ := ltt_some hF
          rw [set_i ct ad G s20.2 hc55 hk55, ← eM56] at hP hD
          obtain ⟨x57, ex57, hF⟩ := ltt_some hF
          refine lv_iinc (v := x57) (lv' := [(7, .int x57), (9, .int x52), (8, .int x51), (6, .int x7), (5, .int s2.1), (0, .ref (ad a)), (1, va_re ad p0), (2, .int p1), (3, .int p2), (4, .int p3)]) hx hb dX6_predictColours__146 hl (k := 2) rfl (by rw [ex57]; rfl) (by decide) rfl (fun ls hl => ?_)
          refine lv_goto (tgt := 79) hx hb dX6_predictColours__149 (by decide) ?_
          obtain rfl := Option.some.inj hF
          exact hwz49 _ _ _ hP hD hS (lv_sub hl [0, 3, 4, 5, 6, 7, 8, 9] rfl)
        clear hF
        have hF := hy54
        clear hy54
        refine lv_icmp_ne (tgt := 127) hx hb dX6_predictColours__111 (by decide) (fun c58 => ?_) (fun c58 => ?_)
        · rw [if_neg c58] at hF
          refine lv_iload_n hx hb dX6_predictColours__127 rfl (lv_at hl 8 rfl) ?_
          refine lv_iconst (v := (2 : Int32)) hx hb dX6_predictColours__128 (by decide) ?_
          obtain ⟨y59, hy59, hF⟩ := bnd_some hF
          have J59 : ∀ (H : Heap) (locs : List Loc) (ls : Array Slot), va_P D classes (wld ct ad G s20.2) H → va_D A (wld ct ad G s20.2) → va_S A s.heap H locs → lv_has ls 10 [(9, .int x52), (8, .int x51), (7, .int s20.1), (6, .int x7), (5, .int s2.1), (0, .ref (ad a)), (1, va_re ad p0), (2, .int p1), (3, .int p2), (4, .int p3)] → W p l e (headSpec wuX6_predictColours_ ({ frames := 2, cells := 0, slots := 0, locals := 50 })).room s m ([.ref (ad a), va_re ad p0, .int p1, .int p2, .int p3] : List Value).toArray below meth c H locs 0 0 (MQ below (va_Qv (fun (_ : Unit) => True) (fun _ t => kE D ct ad G A y t) A) ([.ref (ad a), va_re ad p0, .int p1, .int p2, .int p3] : List Value).toArray s 0 0 A) (F0 m 145 ls [.int y59, .int x53, va_re ad (s20.2.2 a 0)]) := by
            intro H locs ls hP hD hS hl
            obtain rfl := Option.some.inj hF
            exact J54 _ _ _ hP hD hS (lv_sub hl [0, 1, 2, 3, 4, 5, 6, 7, 8, 9] rfl)
          clear hF
          have hF := hy59
          clear hy59
          refine lv_icmp_ne (tgt := 144) hx hb dX6_predictColours__129 (by decide) (fun c60 => ?_) (fun c60 => ?_)
          · rw [if_neg c60] at hF
            refine lv_iconst (v := (0 : Int32)) hx hb dX6_predictColours__144 (by decide) ?_
            obtain rfl := Option.some.inj hF
            exact J59 _ _ _ hP hD hS (lv_sub hl [0, 1, 2, 3, 4, 5, 6, 7, 8, 9] rfl)
          · rw [if_pos c60] at hF
            refine lv_aload_n hx hb dX6_predictColours__132 rfl (lv_at hl 5 rfl) ?_
            refine va_get (D := D) (ci := 6) (v := va_re ad (s20.2.2 a 8)) (C := RX6) (T := TX6) (N := 14) hx hb hts (mus hf_X6) hown hK hP a (wld_o ct ad G s20.2 hc hk (by decide)) rfl 8 (by decide) (hts (.fieldLink RX6 36 "VideoSuite$Samples" "around" "[I") (mu mw_544)) (fun _ h9 => h9) rfl dX6_predictColours__133 ?_
            refine lv_iconst (v := (1 : Int32)) hx hb dX6_predictColours__136 (by decide) ?_
            refine lv_iload hx hb dX6_predictColours__137 (lv_at hl 1 rfl) ?_
            refine lv_iadd hx hb dX6_predictColours__139 ?_
            obtain ⟨x61, ex61, hF⟩ := ltt_some hF
            refine lv_topi (fun zx61 ezx61 => ?_)
            obtain rfl : x61 = zx61 := ex61.trans ezx61.symm
            obtain ⟨b62, ho62, hc62, hk62, hF⟩ := dr_some hF
            refine W_st (st' := [.int x61, .ref (ad b62), .int x53, va_re ad (s20.2.2 a 0)]) (by rw [va_some ho62]) ?_
            obtain ⟨hvc, hF⟩ := chk_some hF
            refine va_iald hx hb hK hP b62 1 (wld_i ct ad G s20.2 hc62 hk62) rfl hvc dX6_predictColours__140 ?_
            obtain ⟨x63, ex63, hF⟩ := ltt_some hF
            refine lv_topi (fun zx63 ezx63 => ?_)
            obtain rfl : x63 = zx63 := ex63.trans ezx63.symm
            refine lv_goto (tgt := 145) hx hb dX6_predictColours__141 (by decide) ?_
            obtain rfl := Option.some.inj hF
            exact J59 _ _ _ hP hD hS (lv_sub hl [0, 1, 2, 3, 4, 5, 6, 7, 8, 9] rfl)
        · rw [if_pos c58] at hF
          refine lv_aload_n hx hb dX6_predictColours__114 rfl (lv_at hl 5 rfl) ?_
          refine va_get (D := D) (ci := 6) (v := va_re ad (s20.2.2 a 8)) (C := RX6) (T := TX6) (N := 14) hx hb hts (mus hf_X6) hown hK hP a (wld_o ct ad G s20.2 hc hk (by decide)) rfl 8 (by decide) (hts (.fieldLink RX6 36 "VideoSuite$Samples" "around" "[I") (mu mw_544)) (fun _ h9 => h9) rfl dX6_predictColours__115 ?_
          refine lv_bipush (v := (10 : Int32)) hx hb dX6_predictColours__118 (by decide) ?_
          refine lv_iload hx hb dX6_predictColours__120 (lv_at hl 0 rfl) ?_
          refine lv_iadd hx hb dX6_predictColours__122 ?_
          obtain ⟨x64, ex64, hF⟩ := ltt_some hF
          refine lv_topi (fun zx64 ezx64 => ?_)
          obtain rfl : x64 = zx64 := ex64.trans ezx64.symm
          obtain ⟨b65, ho65, hc65, hk65, hF⟩ := dr_some hF
          refine W_st (st' := [.int x64, .ref (ad b65), .int x53, va_re ad (s20.2.2 a 0)]) (by rw [va_some ho65]) ?_
          obtain ⟨hvc, hF⟩ := chk_some hF
          refine va_iald hx hb hK hP b65 1 (wld_i ct ad G s20.2 hc65 hk65) rfl hvc dX6_predictColours__123 ?_
          obtain ⟨x66, ex66, hF⟩ := ltt_some hF
          refine lv_topi (fun zx66 ezx66 => ?_)
          obtain rfl : x66 = zx66 := ex66.trans ezx66.symm
          refine lv_goto (tgt := 145) hx hb dX6_predictColours__124 (by decide) ?_
          obtain rfl := Option.some.inj hF
          exact J54 _ _ _ hP hD hS (lv_sub hl [0, 1, 2, 3, 4, 5, 6, 7, 8, 9] rfl)
    · rw [if_pos c18] at hF
      refine lv_aload_n hx hb dX6_predictColours__63 rfl (lv_at hl 2 rfl) ?_
      refine lv_iload hx hb dX6_predictColours__64 (lv_at hl 0 rfl) ?_
      refine lv_bipush (v := (8 : Int32)) hx hb dX6_predictColours__66 (by decide) ?_
      refine lv_bipush (v := (34 : Int32)) hx hb dX6_predictColours__68 (by decide) ?_
      obtain ⟨y67, hy67, hF⟩ := bnd_some hF
      have hf9 := wA_in hD hA9 hS
      refine va_callv (va_runV (As := [.int x7, .int (8 : Int32), .int (34 : Int32)]) (rest := []) ⟨hx, hb, hml, hown, hts⟩ (kX6_fillPlane l D ct ad Z G y15 H.size a x7 ((8 : Int32)) ((34 : Int32)) y67 hc hk hy67) (cwV 3 hts gX6_predictColours__X6_fillPlane rfl rfl rfl (by decide +kernel) ⟨Nat.le_of_ble_eq_true rfl, Nat.le_of_ble_eq_true rfl⟩) ⟨fun a U g mk q => by obtain ⟨q0, q1, qP, qK, qD, qZ, qN⟩ := q; exact ⟨q0, q1, qP, va_K.moved (u := U) (U := U.calling g mk a) (Vm.Alike.refl U.vm) qK, qD, sF.moved (u := U) (U := U.calling g mk a) (Vm.Alike.refl U.vm) qZ, nF.same rfl qN⟩, va_recv hK hP (ci := 6) (q0 := a) rfl (wld_o ct ad G y15 hc hk (by decide)), fun U hU hW => ⟨rfl, by rw [hU], by rw [hU]; exact hP, va_K.moved hW.alike hK, hD.weaken (fun _ _ _ _ => trivial), by rw [hU]; exact ((hZ.kept hS.2.1).narrow hf9).moved hW.alike, hN.warm hW⟩⟩ rfl rfl hl.1 rfl (lv_room (Nat.le_of_ble_eq_true rfl)) dX6_predictColours__70 ⟨(Nat.zero_le _), (Nat.zero_le _)⟩) hS (fun q _ h => hf9 q h) hf9 (fun u t H locs ht hvm hw hB hz1 hk1 hS => ?_)
      obtain ⟨hP, hK9, hD9⟩ := hB
      rw [ht] at hP
      have hD := hD9.weaken (fun _ q _ h => hf9 q.1 h)
      refine lv_goto (tgt := 233) hx hb dX6_predictColours__73 (by decide) ?_
      obtain rfl := Option.some.inj hF
      exact J16 _ _ _ hP hD hS (lv_sub hl [0, 1, 2, 3, 4, 5, 6] rfl)
set_option maxRecDepth 20000 in
theorem gX6_predictLuma_X6_fillWindow : GoodIn wuX6_predictLuma (wsV RX6 106 RX6 yX6_fillWindow wuX6_fillWindow) := gu_V mw_2020 mw_2022 mw_70 mw_172 mw_2023
set_option maxRecDepth 20000 in
set_option maxRecDepth 20000 in
theorem gX6_predictLuma_X6_tapBoth : GoodIn wuX6_predictLuma (wsV RX6 117 RX6 yX6_tapBoth wuX6_tapBoth) := gu_V mw_2032 mw_2034 mw_73 mw_172 mw_2035
set_option maxRecDepth 20000 in
theorem gX6_predictLuma_X6_tapColumns : GoodIn wuX6_predictLuma (wsV RX6 114 RX6 yX6_tapColumns wuX6_tapColumns) := gu_V mw_2028 mw_2030 mw_72 mw_172 mw_2031
set_option maxRecDepth 20000 in
set_option maxRecDepth 20000 in
theorem gX6_predictLuma_X6_tapRows : GoodIn wuX6_predictLuma (wsV RX6 110 RX6 yX6_tapRows wuX6_tapRows) := gu_V mw_2024 mw_2026 mw_71 mw_172 mw_2027
set_option maxRecDepth 20000 in
theorem dX6_predictLuma_0 : decode cX6_predictLuma 0 = .ok (.iload_n 2, 1) := by decide +kernel
theorem dX6_predictLuma_1 : decode cX6_predictLuma 1 = .ok (.iconst 3, 1) := by decide +kernel
theorem dX6_predictLuma_2 : decode cX6_predictLuma 2 = .ok (.iand, 1) := by decide +kernel
theorem dX6_predictLuma_3 : decode cX6_predictLuma 3 = .ok (.istore 7, 2) := by decide +kernel
theorem dX6_predictLuma_5 : decode cX6_predictLuma 5 = .ok (.iload_n 3, 1) := by decide +kernel
theorem dX6_predictLuma_6 : decode cX6_predictLuma 6 = .ok (.iconst 3, 1) := by decide +kernel
theorem dX6_predictLuma_7 : decode cX6_predictLuma 7 = .ok (.iand, 1) := by decide +kernel
theorem dX6_predictLuma_8 : decode cX6_predictLuma 8 = .ok (.istore 8, 2) := by decide +kernel
theorem dX6_predictLuma_10 : decode cX6_predictLuma 10 = .ok (.aload_n 0, 1) := by decide +kernel
theorem dX6_predictLuma_11 : decode cX6_predictLuma 11 = .ok (.aload_n 1, 1) := by decide +kernel
theorem dX6_predictLuma_12 : decode cX6_predictLuma 12 = .ok (.iload_n 2, 1) := by decide +kernel
theorem dX6_predictLuma_13 : decode cX6_predictLuma 13 = .ok (.iconst 2, 1) := by decide +kernel
theorem dX6_predictLuma_14 : decode cX6_predictLuma 14 = .ok (.ishr, 1) := by decide +kernel
theorem dX6_predictLuma_15 : decode cX6_predictLuma 15 = .ok (.iconst 2, 1) := by decide +kernel
theorem dX6_predictLuma_16 : decode cX6_predictLuma 16 = .ok (.isub, 1) := by decide +kernel
theorem dX6_predictLuma_17 : decode cX6_predictLuma 17 = .ok (.iload_n 3, 1) := by decide +kernel
theorem dX6_predictLuma_18 : decode cX6_predictLuma 18 = .ok (.iconst 2, 1) := by decide +kernel
theorem dX6_predictLuma_19 : decode cX6_predictLuma 19 = .ok (.ishr, 1) := by decide +kernel
theorem dX6_predictLuma_20 : decode cX6_predictLuma 20 = .ok (.iconst 2, 1) := by decide +kernel
theorem dX6_predictLuma_21 : decode cX6_predictLuma 21 = .ok (.isub, 1) := by decide +kernel
theorem dX6_predictLuma_22 : decode cX6_predictLuma 22 = .ok (.iload 4, 2) := by decide +kernel
theorem dX6_predictLuma_24 : decode cX6_predictLuma 24 = .ok (.iconst 5, 1) := by decide +kernel
theorem dX6_predictLuma_25 : decode cX6_predictLuma 25 = .ok (.iadd, 1) := by decide +kernel
theorem dX6_predictLuma_26 : decode cX6_predictLuma 26 = .ok (.invokevirtual 106, 3) := by decide +kernel
theorem dX6_predictLuma_29 : decode cX6_predictLuma 29 = .ok (.iconst 0, 1) := by decide +kernel
theorem dX6_predictLuma_30 : decode cX6_predictLuma 30 = .ok (.istore 9, 2) := by decide +kernel
theorem dX6_predictLuma_32 : decode cX6_predictLuma 32 = .ok (.iload 8, 2) := by decide +kernel
theorem dX6_predictLuma_34 : decode cX6_predictLuma 34 = .ok (.ifCond .ne 9, 3) := by decide +kernel
theorem dX6_predictLuma_37 : decode cX6_predictLuma 37 = .ok (.iload 7, 2) := by decide +kernel
theorem dX6_predictLuma_39 : decode cX6_predictLuma 39 = .ok (.iconst 2, 1) := by decide +kernel
theorem dX6_predictLuma_40 : decode cX6_predictLuma 40 = .ok (.if_icmp .ne 14, 3) := by decide +kernel
theorem dX6_predictLuma_43 : decode cX6_predictLuma 43 = .ok (.iload 7, 2) := by decide +kernel
theorem dX6_predictLuma_45 : decode cX6_predictLuma 45 = .ok (.ifCond .ne 105, 3) := by decide +kernel
theorem dX6_predictLuma_48 : decode cX6_predictLuma 48 = .ok (.iload 8, 2) := by decide +kernel
theorem dX6_predictLuma_50 : decode cX6_predictLuma 50 = .ok (.iconst 2, 1) := by decide +kernel
theorem dX6_predictLuma_51 : decode cX6_predictLuma 51 = .ok (.if_icmp .eq 99, 3) := by decide +kernel
theorem dX6_predictLuma_54 : decode cX6_predictLuma 54 = .ok (.iconst 2, 1) := by decide +kernel
theorem dX6_predictLuma_55 : decode cX6_predictLuma 55 = .ok (.iload 8, 2) := by decide +kernel
theorem dX6_predictLuma_57 : decode cX6_predictLuma 57 = .ok (.iconst 3, 1) := by decide +kernel
theorem dX6_predictLuma_58 : decode cX6_predictLuma 58 = .ok (.if_icmp .ne 7, 3) := by decide +kernel
theorem dX6_predictLuma_61 : decode cX6_predictLuma 61 = .ok (.iconst 1, 1) := by decide +kernel
theorem dX6_predictLuma_62 : decode cX6_predictLuma 62 = .ok (.goto 4, 3) := by decide +kernel
theorem dX6_predictLuma_65 : decode cX6_predictLuma 65 = .ok (.iconst 0, 1) := by decide +kernel
theorem dX6_predictLuma_66 : decode cX6_predictLuma 66 = .ok (.iadd, 1) := by decide +kernel
theorem dX6_predictLuma_67 : decode cX6_predictLuma 67 = .ok (.bipush 21, 2) := by decide +kernel
theorem dX6_predictLuma_69 : decode cX6_predictLuma 69 = .ok (.imul, 1) := by decide +kernel
theorem dX6_predictLuma_70 : decode cX6_predictLuma 70 = .ok (.iconst 2, 1) := by decide +kernel
theorem dX6_predictLuma_71 : decode cX6_predictLuma 71 = .ok (.iadd, 1) := by decide +kernel
theorem dX6_predictLuma_72 : decode cX6_predictLuma 72 = .ok (.iload 7, 2) := by decide +kernel
theorem dX6_predictLuma_74 : decode cX6_predictLuma 74 = .ok (.iconst 3, 1) := by decide +kernel
theorem dX6_predictLuma_75 : decode cX6_predictLuma 75 = .ok (.if_icmp .ne 7, 3) := by decide +kernel
theorem dX6_predictLuma_78 : decode cX6_predictLuma 78 = .ok (.iconst 1, 1) := by decide +kernel
theorem dX6_predictLuma_79 : decode cX6_predictLuma 79 = .ok (.goto 4, 3) := by decide +kernel
theorem dX6_predictLuma_82 : decode cX6_predictLuma 82 = .ok (.iconst 0, 1) := by decide +kernel
theorem dX6_predictLuma_83 : decode cX6_predictLuma 83 = .ok (.iadd, 1) := by decide +kernel
theorem dX6_predictLuma_84 : decode cX6_predictLuma 84 = .ok (.istore 10, 2) := by decide +kernel
theorem dX6_predictLuma_86 : decode cX6_predictLuma 86 = .ok (.iconst 0, 1) := by decide +kernel
theorem dX6_predictLuma_87 : decode cX6_predictLuma 87 = .ok (.istore 11, 2) := by decide +kernel
theorem dX6_predictLuma_89 : decode cX6_predictLuma 89 = .ok (.iload 11, 2) := by decide +kernel
theorem dX6_predictLuma_91 : decode cX6_predictLuma 91 = .ok (.iload 4, 2) := by decide +kernel
theorem dX6_predictLuma_93 : decode cX6_predictLuma 93 = .ok (.iload 4, 2) := by decide +kernel
theorem dX6_predictLuma_95 : decode cX6_predictLuma 95 = .ok (.imul, 1) := by decide +kernel
theorem dX6_predictLuma_96 : decode cX6_predictLuma 96 = .ok (.if_icmp .ge 51, 3) := by decide +kernel
theorem dX6_predictLuma_99 : decode cX6_predictLuma 99 = .ok (.aload 5, 2) := by decide +kernel
theorem dX6_predictLuma_101 : decode cX6_predictLuma 101 = .ok (.iload 6, 2) := by decide +kernel
theorem dX6_predictLuma_103 : decode cX6_predictLuma 103 = .ok (.iload 11, 2) := by decide +kernel
theorem dX6_predictLuma_105 : decode cX6_predictLuma 105 = .ok (.iload 4, 2) := by decide +kernel
theorem dX6_predictLuma_107 : decode cX6_predictLuma 107 = .ok (.idiv, 1) := by decide +kernel
theorem dX6_predictLuma_108 : decode cX6_predictLuma 108 = .ok (.bipush 16, 2) := by decide +kernel
theorem dX6_predictLuma_110 : decode cX6_predictLuma 110 = .ok (.imul, 1) := by decide +kernel
theorem dX6_predictLuma_111 : decode cX6_predictLuma 111 = .ok (.iadd, 1) := by decide +kernel
theorem dX6_predictLuma_112 : decode cX6_predictLuma 112 = .ok (.iload 11, 2) := by decide +kernel
theorem dX6_predictLuma_114 : decode cX6_predictLuma 114 = .ok (.iload 4, 2) := by decide +kernel
theorem dX6_predictLuma_116 : decode cX6_predictLuma 116 = .ok (.irem, 1) := by decide +kernel
theorem dX6_predictLuma_117 : decode cX6_predictLuma 117 = .ok (.iadd, 1) := by decide +kernel
theorem dX6_predictLuma_118 : decode cX6_predictLuma 118 = .ok (.aload_n 0, 1) := by decide +kernel
theorem dX6_predictLuma_119 : decode cX6_predictLuma 119 = .ok (.getfield 21, 3) := by decide +kernel
theorem dX6_predictLuma_122 : decode cX6_predictLuma 122 = .ok (.iload 10, 2) := by decide +kernel
theorem dX6_predictLuma_124 : decode cX6_predictLuma 124 = .ok (.iload 11, 2) := by decide +kernel
theorem dX6_predictLuma_126 : decode cX6_predictLuma 126 = .ok (.iload 4, 2) := by decide +kernel
theorem dX6_predictLuma_128 : decode cX6_predictLuma 128 = .ok (.idiv, 1) := by decide +kernel
theorem dX6_predictLuma_129 : decode cX6_predictLuma 129 = .ok (.bipush 21, 2) := by decide +kernel
theorem dX6_predictLuma_131 : decode cX6_predictLuma 131 = .ok (.imul, 1) := by decide +kernel
theorem dX6_predictLuma_132 : decode cX6_predictLuma 132 = .ok (.iadd, 1) := by decide +kernel
theorem dX6_predictLuma_133 : decode cX6_predictLuma 133 = .ok (.iload 11, 2) := by decide +kernel
theorem dX6_predictLuma_135 : decode cX6_predictLuma 135 = .ok (.iload 4, 2) := by decide +kernel
theorem dX6_predictLuma_137 : decode cX6_predictLuma 137 = .ok (.irem, 1) := by decide +kernel
theorem dX6_predictLuma_138 : decode cX6_predictLuma 138 = .ok (.iadd, 1) := by decide +kernel
theorem dX6_predictLuma_139 : decode cX6_predictLuma 139 = .ok (.iaload, 1) := by decide +kernel
theorem dX6_predictLuma_140 : decode cX6_predictLuma 140 = .ok (.iastore, 1) := by decide +kernel
theorem dX6_predictLuma_141 : decode cX6_predictLuma 141 = .ok (.iinc 11 1, 3) := by decide +kernel
theorem dX6_predictLuma_144 : decode cX6_predictLuma 144 = .ok (.goto (-55), 3) := by decide +kernel
theorem dX6_predictLuma_147 : decode cX6_predictLuma 147 = .ok (.iconst 1, 1) := by decide +kernel
theorem dX6_predictLuma_148 : decode cX6_predictLuma 148 = .ok (.istore 9, 2) := by decide +kernel
theorem dX6_predictLuma_150 : decode cX6_predictLuma 150 = .ok (.iload 7, 2) := by decide +kernel
theorem dX6_predictLuma_152 : decode cX6_predictLuma 152 = .ok (.ifCond .eq 37, 3) := by decide +kernel
theorem dX6_predictLuma_155 : decode cX6_predictLuma 155 = .ok (.iload 8, 2) := by decide +kernel
theorem dX6_predictLuma_157 : decode cX6_predictLuma 157 = .ok (.iconst 2, 1) := by decide +kernel
theorem dX6_predictLuma_158 : decode cX6_predictLuma 158 = .ok (.if_icmp .eq 31, 3) := by decide +kernel
theorem dX6_predictLuma_161 : decode cX6_predictLuma 161 = .ok (.aload_n 0, 1) := by decide +kernel
theorem dX6_predictLuma_162 : decode cX6_predictLuma 162 = .ok (.iload 4, 2) := by decide +kernel
theorem dX6_predictLuma_164 : decode cX6_predictLuma 164 = .ok (.iconst 2, 1) := by decide +kernel
theorem dX6_predictLuma_165 : decode cX6_predictLuma 165 = .ok (.iload 8, 2) := by decide +kernel
theorem dX6_predictLuma_167 : decode cX6_predictLuma 167 = .ok (.iconst 3, 1) := by decide +kernel
theorem dX6_predictLuma_168 : decode cX6_predictLuma 168 = .ok (.if_icmp .ne 7, 3) := by decide +kernel
theorem dX6_predictLuma_171 : decode cX6_predictLuma 171 = .ok (.iconst 1, 1) := by decide +kernel
theorem dX6_predictLuma_172 : decode cX6_predictLuma 172 = .ok (.goto 4, 3) := by decide +kernel
theorem dX6_predictLuma_175 : decode cX6_predictLuma 175 = .ok (.iconst 0, 1) := by decide +kernel
theorem dX6_predictLuma_176 : decode cX6_predictLuma 176 = .ok (.iadd, 1) := by decide +kernel
theorem dX6_predictLuma_177 : decode cX6_predictLuma 177 = .ok (.aload 5, 2) := by decide +kernel
theorem dX6_predictLuma_179 : decode cX6_predictLuma 179 = .ok (.iload 6, 2) := by decide +kernel
theorem dX6_predictLuma_181 : decode cX6_predictLuma 181 = .ok (.iload 9, 2) := by decide +kernel
theorem dX6_predictLuma_183 : decode cX6_predictLuma 183 = .ok (.invokevirtual 110, 3) := by decide +kernel
theorem dX6_predictLuma_186 : decode cX6_predictLuma 186 = .ok (.iconst 1, 1) := by decide +kernel
theorem dX6_predictLuma_187 : decode cX6_predictLuma 187 = .ok (.istore 9, 2) := by decide +kernel
theorem dX6_predictLuma_189 : decode cX6_predictLuma 189 = .ok (.iload 8, 2) := by decide +kernel
theorem dX6_predictLuma_191 : decode cX6_predictLuma 191 = .ok (.ifCond .eq 37, 3) := by decide +kernel
theorem dX6_predictLuma_194 : decode cX6_predictLuma 194 = .ok (.iload 7, 2) := by decide +kernel
theorem dX6_predictLuma_196 : decode cX6_predictLuma 196 = .ok (.iconst 2, 1) := by decide +kernel
theorem dX6_predictLuma_197 : decode cX6_predictLuma 197 = .ok (.if_icmp .eq 31, 3) := by decide +kernel
theorem dX6_predictLuma_200 : decode cX6_predictLuma 200 = .ok (.aload_n 0, 1) := by decide +kernel
theorem dX6_predictLuma_201 : decode cX6_predictLuma 201 = .ok (.iload 4, 2) := by decide +kernel
theorem dX6_predictLuma_203 : decode cX6_predictLuma 203 = .ok (.iconst 2, 1) := by decide +kernel
theorem dX6_predictLuma_204 : decode cX6_predictLuma 204 = .ok (.iload 7, 2) := by decide +kernel
theorem dX6_predictLuma_206 : decode cX6_predictLuma 206 = .ok (.iconst 3, 1) := by decide +kernel
theorem dX6_predictLuma_207 : decode cX6_predictLuma 207 = .ok (.if_icmp .ne 7, 3) := by decide +kernel
theorem dX6_predictLuma_210 : decode cX6_predictLuma 210 = .ok (.iconst 1, 1) := by decide +kernel
theorem dX6_predictLuma_211 : decode cX6_predictLuma 211 = .ok (.goto 4, 3) := by decide +kernel
theorem dX6_predictLuma_214 : decode cX6_predictLuma 214 = .ok (.iconst 0, 1) := by decide +kernel
theorem dX6_predictLuma_215 : decode cX6_predictLuma 215 = .ok (.iadd, 1) := by decide +kernel
theorem dX6_predictLuma_216 : decode cX6_predictLuma 216 = .ok (.aload 5, 2) := by decide +kernel
theorem dX6_predictLuma_218 : decode cX6_predictLuma 218 = .ok (.iload 6, 2) := by decide +kernel
theorem dX6_predictLuma_220 : decode cX6_predictLuma 220 = .ok (.iload 9, 2) := by decide +kernel
theorem dX6_predictLuma_222 : decode cX6_predictLuma 222 = .ok (.invokevirtual 114, 3) := by decide +kernel
theorem dX6_predictLuma_225 : decode cX6_predictLuma 225 = .ok (.iconst 1, 1) := by decide +kernel
theorem dX6_predictLuma_226 : decode cX6_predictLuma 226 = .ok (.istore 9, 2) := by decide +kernel
theorem dX6_predictLuma_228 : decode cX6_predictLuma 228 = .ok (.iload 7, 2) := by decide +kernel
theorem dX6_predictLuma_230 : decode cX6_predictLuma 230 = .ok (.iconst 2, 1) := by decide +kernel
theorem dX6_predictLuma_231 : decode cX6_predictLuma 231 = .ok (.if_icmp .ne 8, 3) := by decide +kernel
theorem dX6_predictLuma_234 : decode cX6_predictLuma 234 = .ok (.iload 8, 2) := by decide +kernel
theorem dX6_predictLuma_236 : decode cX6_predictLuma 236 = .ok (.ifCond .ne 14, 3) := by decide +kernel
theorem dX6_predictLuma_239 : decode cX6_predictLuma 239 = .ok (.iload 8, 2) := by decide +kernel
theorem dX6_predictLuma_241 : decode cX6_predictLuma 241 = .ok (.iconst 2, 1) := by decide +kernel
theorem dX6_predictLuma_242 : decode cX6_predictLuma 242 = .ok (.if_icmp .ne 20, 3) := by decide +kernel
theorem dX6_predictLuma_245 : decode cX6_predictLuma 245 = .ok (.iload 7, 2) := by decide +kernel
theorem dX6_predictLuma_247 : decode cX6_predictLuma 247 = .ok (.ifCond .eq 15, 3) := by decide +kernel
theorem dX6_predictLuma_250 : decode cX6_predictLuma 250 = .ok (.aload_n 0, 1) := by decide +kernel
theorem dX6_predictLuma_251 : decode cX6_predictLuma 251 = .ok (.iload 4, 2) := by decide +kernel
theorem dX6_predictLuma_253 : decode cX6_predictLuma 253 = .ok (.aload 5, 2) := by decide +kernel
theorem dX6_predictLuma_255 : decode cX6_predictLuma 255 = .ok (.iload 6, 2) := by decide +kernel
theorem dX6_predictLuma_257 : decode cX6_predictLuma 257 = .ok (.iload 9, 2) := by decide +kernel
theorem dX6_predictLuma_259 : decode cX6_predictLuma 259 = .ok (.invokevirtual 117, 3) := by decide +kernel
theorem dX6_predictLuma_262 : decode cX6_predictLuma 262 = .ok (.return_, 1) := by decide +kernel
def FX6_predictLuma (G : GG) (M : DD) (a : Nat) (p0 : Option Nat) (p1 : Int32) (p2 : Int32) (p3 : Int32) (p4 : Option Nat) (p5 : Int32) : Option (DD) :=
  ltt ((p1 &&& ((3 : Int32)))) fun x1 =>
  ltt ((p2 &&& ((3 : Int32)))) fun x2 =>
  ltt ((p1 >>> (((2 : Int32)) &&& 31))) fun x3 =>
  ltt ((x3 - ((2 : Int32)))) fun x4 =>
  ltt ((p2 >>> (((2 : Int32)) &&& 31))) fun x5 =>
  ltt ((x5 - ((2 : Int32)))) fun x6 =>
  ltt ((p3 + ((5 : Int32)))) fun x7 =>
  bnd (FX6_fillWindow G M a p0 x4 x6 x7) fun y8 =>
  bnd (if x2 = ((0 : Int32)) then (bnd (if x1 = ((2 : Int32)) then (bnd (if x1 = ((0 : Int32)) then (bnd (if x2 = ((2 : Int32)) then (some ((0 : Int32), y8)) else
  (bnd (if x2 = ((3 : Int32)) then (some ((1 : Int32))) else
  (some ((0 : Int32)))) fun (y110 : Int32) =>
  ltt ((((2 : Int32)) + y110)) fun x111 =>
  ltt ((x111 * ((21 : Int32)))) fun x112 =>
  ltt ((x112 + ((2 : Int32)))) fun x113 =>
  bnd (if x1 = ((3 : Int32)) then (some ((1 : Int32))) else
  (some ((0 : Int32)))) fun (y114 : Int32) =>
  ltt ((x113 + y114)) fun x115 =>
  bnd (itr (fun (s117 : Int32 × DD) => ((ltt ((p3 * p3)) fun x120 =>
  if x120 ≤ s117.1 then (some (.inr (s117.1, s117.2))) else
  (chk (¬ p3 = 0) <|
  ltt (s117.1 / p3) fun x122 =>
  ltt ((x122 * ((16 : Int32)))) fun x123 =>
  ltt ((p5 + x123)) fun x124 =>
  chk (¬ p3 = 0) <|
  ltt (s117.1 - s117.1 / p3 * p3) fun x125 =>
  ltt ((x124 + x125)) fun x126 =>
  chk (¬ p3 = 0) <|
  ltt (s117.1 / p3) fun x127 =>
  ltt ((x127 * ((21 : Int32)))) fun x128 =>
  ltt ((x115 + x128)) fun x129 =>
  chk (¬ p3 = 0) <|
  ltt (s117.1 - s117.1 / p3 * p3) fun x130 =>
  ltt ((x129 + x130)) fun x131 =>
  dr G 13 ((s117.2.2 a 3)) fun b132 =>
  chk (¬ (x131 < 0 ∨ G.2.2 b132 ≤ x131.toNatClampNeg)) <|
  ltt (s117.2.1 b132 x131.toNatClampNeg) fun x133 =>
  dr G 13 p4 fun b134 =>
  chk (¬ (x126 < 0 ∨ G.2.2 b134 ≤ x126.toNatClampNeg)) <|
  ltt (uI s117.2 b134 x126.toNatClampNeg x133) fun M135 =>
  ltt (s117.1 + (1 : Int32)) fun x136 =>
  some (.inl (x136, M135)))) : Option ((Int32 × DD) ⊕ (Int32 × DD)))) 1000000 ((0 : Int32), y8)) fun (y116 : Int32 × DD) =>
  some ((1 : Int32), y116.2))) fun (y108 : Int32 × DD) =>
  some (y108.1, y108.2)) else
  (some ((0 : Int32), y8))) fun (y106 : Int32 × DD) =>
  some (y106.1, y106.2)) else
  (bnd (if x2 = ((3 : Int32)) then (some ((1 : Int32))) else
  (some ((0 : Int32)))) fun (y77 : Int32) =>
  ltt ((((2 : Int32)) + y77)) fun x78 =>
  ltt ((x78 * ((21 : Int32)))) fun x79 =>
  ltt ((x79 + ((2 : Int32)))) fun x80 =>
  bnd (if x1 = ((3 : Int32)) then (some ((1 : Int32))) else
  (some ((0 : Int32)))) fun (y81 : Int32) =>
  ltt ((x80 + y81)) fun x82 =>
  bnd (itr (fun (s84 : Int32 × DD) => ((ltt ((p3 * p3)) fun x87 =>
  if x87 ≤ s84.1 then (some (.inr (s84.1, s84.2))) else
  (chk (¬ p3 = 0) <|
  ltt (s84.1 / p3) fun x89 =>
  ltt ((x89 * ((16 : Int32)))) fun x90 =>
  ltt ((p5 + x90)) fun x91 =>
  chk (¬ p3 = 0) <|
  ltt (s84.1 - s84.1 / p3 * p3) fun x92 =>
  ltt ((x91 + x92)) fun x93 =>
  chk (¬ p3 = 0) <|
  ltt (s84.1 / p3) fun x94 =>
  ltt ((x94 * ((21 : Int32)))) fun x95 =>
  ltt ((x82 + x95)) fun x96 =>
  chk (¬ p3 = 0) <|
  ltt (s84.1 - s84.1 / p3 * p3) fun x97 =>
  ltt ((x96 + x97)) fun x98 =>
  dr G 13 ((s84.2.2 a 3)) fun b99 =>
  chk (¬ (x98 < 0 ∨ G.2.2 b99 ≤ x98.toNatClampNeg)) <|
  ltt (s84.2.1 b99 x98.toNatClampNeg) fun x100 =>
  dr G 13 p4 fun b101 =>
  chk (¬ (x93 < 0 ∨ G.2.2 b101 ≤ x93.toNatClampNeg)) <|
  ltt (uI s84.2 b101 x93.toNatClampNeg x100) fun M102 =>
  ltt (s84.1 + (1 : Int32)) fun x103 =>
  some (.inl (x103, M102)))) : Option ((Int32 × DD) ⊕ (Int32 × DD)))) 1000000 ((0 : Int32), y8)) fun (y83 : Int32 × DD) =>
  some ((1 : Int32), y83.2))) fun (y75 : Int32 × DD) =>
  some (y75.1, y75.2)) else
  (bnd (if x1 = ((0 : Int32)) then (bnd (if x2 = ((2 : Int32)) then (some ((0 : Int32), y8)) else
  (bnd (if x2 = ((3 : Int32)) then (some ((1 : Int32))) else
  (some ((0 : Int32)))) fun (y46 : Int32) =>
  ltt ((((2 : Int32)) + y46)) fun x47 =>
  ltt ((x47 * ((21 : Int32)))) fun x48 =>
  ltt ((x48 + ((2 : Int32)))) fun x49 =>
  bnd (if x1 = ((3 : Int32)) then (some ((1 : Int32))) else
  (some ((0 : Int32)))) fun (y50 : Int32) =>
  ltt ((x49 + y50)) fun x51 =>
  bnd (itr (fun (s53 : Int32 × DD) => ((ltt ((p3 * p3)) fun x56 =>
  if x56 ≤ s53.1 then (some (.inr (s53.1, s53.2))) else
  (chk (¬ p3 = 0) <|
  ltt (s53.1 / p3) fun x58 =>
  ltt ((x58 * ((16 : Int32)))) fun x59 =>
  ltt ((p5 + x59)) fun x60 =>
  chk (¬ p3 = 0) <|
  ltt (s53.1 - s53.1 / p3 * p3) fun x61 =>
  ltt ((x60 + x61)) fun x62 =>
  chk (¬ p3 = 0) <|
  ltt (s53.1 / p3) fun x63 =>
  ltt ((x63 * ((21 : Int32)))) fun x64 =>
  ltt ((x51 + x64)) fun x65 =>
  chk (¬ p3 = 0) <|
  ltt (s53.1 - s53.1 / p3 * p3) fun x66 =>
  ltt ((x65 + x66)) fun x67 =>
  dr G 13 ((s53.2.2 a 3)) fun b68 =>
  chk (¬ (x67 < 0 ∨ G.2.2 b68 ≤ x67.toNatClampNeg)) <|
  ltt (s53.2.1 b68 x67.toNatClampNeg) fun x69 =>
  dr G 13 p4 fun b70 =>
  chk (¬ (x62 < 0 ∨ G.2.2 b70 ≤ x62.toNatClampNeg)) <|
  ltt (uI s53.2 b70 x62.toNatClampNeg x69) fun M71 =>
  ltt (s53.1 + (1 : Int32)) fun x72 =>
  some (.inl (x72, M71)))) : Option ((Int32 × DD) ⊕ (Int32 × DD)))) 1000000 ((0 : Int32), y8)) fun (y52 : Int32 × DD) =>
  some ((1 : Int32), y52.2))) fun (y44 : Int32 × DD) =>
  some (y44.1, y44.2)) else
  (some ((0 : Int32), y8))) fun (y42 : Int32 × DD) =>
  some (y42.1, y42.2))) fun (y9 : Int32 × DD) =>
  bnd (if x1 = ((0 : Int32)) then (some (y9.1, y9.2)) else
  (bnd (if x2 = ((2 : Int32)) then (some (y9.1, y9.2)) else
  (bnd (if x2 = ((3 : Int32)) then (some ((1 : Int32))) else
  (some ((0 : Int32)))) fun (y37 : Int32) =>
  ltt ((((2 : Int32)) + y37)) fun x38 =>
  bnd (FX6_tapRows G y9.2 a p3 x38 p4 p5 y9.1) fun y39 =>
  some ((1 : Int32), y39))) fun (y35 : Int32 × DD) =>
  some (y35.1, y35.2))) fun (y10 : Int32 × DD) =>
  bnd (if x2 = ((0 : Int32)) then (some (y10.1, y10.2)) else
  (bnd (if x1 = ((2 : Int32)) then (some (y10.1, y10.2)) else
  (bnd (if x1 = ((3 : Int32)) then (some ((1 : Int32))) else
  (some ((0 : Int32)))) fun (y30 : Int32) =>
  ltt ((((2 : Int32)) + y30)) fun x31 =>
  bnd (FX6_tapColumns G y10.2 a p3 x31 p4 p5 y10.1) fun y32 =>
  some ((1 : Int32), y32))) fun (y28 : Int32 × DD) =>
  some (y28.1, y28.2))) fun (y11 : Int32 × DD) =>
  bnd (if x1 = ((2 : Int32)) then (bnd (if x2 = ((0 : Int32)) then (bnd (if x2 = ((2 : Int32)) then (bnd (if x1 = ((0 : Int32)) then (some (y11.2)) else
  (bnd (FX6_tapBoth G y11.2 a p3 p4 p5 y11.1) fun y26 =>
  some (y26))) fun (y24 : DD) =>
  some (y24)) else
  (some (y11.2))) fun (y22 : DD) =>
  some (y22)) else
  (bnd (FX6_tapBoth G y11.2 a p3 p4 p5 y11.1) fun y21 =>
  some (y21))) fun (y19 : DD) =>
  some (y19)) else
  (bnd (if x2 = ((2 : Int32)) then (bnd (if x1 = ((0 : Int32)) then (some (y11.2)) else
  (bnd (FX6_tapBoth G y11.2 a p3 p4 p5 y11.1) fun y18 =>
  some (y18))) fun (y16 : DD) =>
  some (y16)) else
  (some (y11.2))) fun (y14 : DD) =>
  some (y14))) fun (y12 : DD) =>
  some y12
set_option maxHeartbeats 4000000 in
set_option maxRecDepth 100000 in
theorem kX6_predictLuma (l : Launch) (D : va_G) (ct : CT) (ad : Nat → Nat) (Z : Nat → Nat) (G : GG) (M : DD) (sz : Nat) (a : Nat) (p0 : Option Nat) (p1 : Int32) (p2 : Int32) (p3 : Int32) (p4 : Option Nat) (p5 : Int32) (y : DD) (hc : a < G.1) (hk : G.2.1 a = 6) (hF : FX6_predictLuma G M a p0 p1 p2 p3 p4 p5 = some y) : Met l yX6_predictLuma wuX6_predictLuma ({ frames := 1, cells := 0, slots := 0, locals := 32 }) (va_Pc [.ref (ad a), va_re ad p0, .int p1, .int p2, .int p3, va_re ad p4, .int p5] (kB D ct ad Z G M sz)) (va_Qv (fun (_ : Unit) => True) (fun _ t => kE D ct ad G (wA ad G sz) y t) (wA ad G sz)) 0 0 (wA ad G sz) := by
  refine Met.ofW (cc := cX6_predictLuma) (maxL := 12) (ret := none) (by decide) rfl ?_
  intro p e s m args below meth c s₁ B hml hv
  obtain ⟨rfl, hsz, hP, hK, hD0, hZ, hN⟩ := hv
  have hx := B.exec
  have hb := B.bytes
  have hr := B.returns
  have hts := atoms_spec (ws := wuX6_predictLuma) B.pre
  have hown : s.vm.findClass RX6 = some m.cls := findClass_of_methodNamed B.named
  have hlocks := B.notSynchronized
  subst hsz
  have hD := wD_self (sz := s.heap.size) hD0
  have hA9 : ∀ q, s.heap.size ≤ q → wA ad G s.heap.size q := fun q h => Or.inr h
  generalize hAe : wA ad G s.heap.size = A at hD hA9 hZ ⊢
  have hS : va_S A s.heap s.heap [] := va_S.rf
  have hl := lv_entry ([.ref (ad a), va_re ad p0, .int p1, .int p2, .int p3, va_re ad p4, .int p5]) (n := 12) (by cases p0 <;> cases p4 <;> exact Nat.le_of_ble_eq_true rfl)
  rw [lg_entry_eq]
  generalize (lg_sl ([.ref (ad a), va_re ad p0, .int p1, .int p2, .int p3, va_re ad p4, .int p5]) ++ List.replicate (12 - (lg_sl ([.ref (ad a), va_re ad p0, .int p1, .int p2, .int p3, va_re ad p4, .int p5])).length) Slot.unset).toArray = ls at hl ⊢
  have hl : lv_has ls 12 [(0, .ref (ad a)), (1, va_re ad p0), (2, .int p1), (3, .int p2), (4, .int p3), (5, va_re ad p4), (6, .int p5)] := by have e9 : lv_args 0 [.ref (ad a), va_re ad p0, .int p1, .int p2, .int p3, va_re ad p4, .int p5] = [(0, .ref (ad a)), (1, va_re ad p0), (2, .int p1), (3, .int p2), (4, .int p3), (5, va_re ad p4), (6, .int p5)] := (by cases p0 <;> cases p4 <;> rfl); rw [e9] at hl; exact hl
  unfold FX6_predictLuma at hF
  refine lv_iload_n hx hb dX6_predictLuma_0 rfl (lv_at hl 2 rfl) ?_
  refine lv_iconst (v := (3 : Int32)) hx hb dX6_predictLuma_1 (by decide) ?_
  refine lv_iand hx hb dX6_predictLuma_2 ?_
  obtain ⟨x1, ex1, hF⟩ := ltt_some hF
  refine lv_topi (fun zx1 ezx1 => ?_)
  obtain rfl : x1 = zx1 := ex1.trans ezx1.symm
  refine lv_istore (lv' := [(7, .int x1), (0, .ref (ad a)), (1, va_re ad p0), (2, .int p1), (3, .int p2), (4, .int p3), (5, va_re ad p4), (6, .int p5)]) hx hb dX6_predictLuma_3 hl (by decide) rfl (fun ls hl => ?_)
  refine lv_iload_n hx hb dX6_predictLuma_5 rfl (lv_at hl 4 rfl) ?_
  refine lv_iconst (v := (3 : Int32)) hx hb dX6_predictLuma_6 (by decide) ?_
  refine lv_iand hx hb dX6_predictLuma_7 ?_
  obtain ⟨x2, ex2, hF⟩ := ltt_some hF
  refine lv_topi (fun zx2 ezx2 => ?_)
  obtain rfl : x2 = zx2 := ex2.trans ezx2.symm
  refine lv_istore (lv' := [(8, .int x2), (7, .int x1), (0, .ref (ad a)), (1, va_re ad p0), (2, .int p1), (3, .int p2), (4, .int p3), (5, va_re ad p4), (6, .int p5)]) hx hb dX6_predictLuma_8 hl (by decide) rfl (fun ls hl => ?_)
  refine lv_aload_n hx hb dX6_predictLuma_10 rfl (lv_at hl 2 rfl) ?_
  refine lv_aloadq_n hx hb dX6_predictLuma_11 rfl (lv_at hl 3 rfl) ?_
  refine lv_iload_n hx hb dX6_predictLuma_12 rfl (lv_at hl 4 rfl) ?_
  refine lv_iconst (v := (2 : Int32)) hx hb dX6_predictLuma_13 (by decide) ?_
  refine lv_ishr hx hb dX6_predictLuma_14 ?_
  obtain ⟨x3, ex3, hF⟩ := ltt_some hF
  refine lv_topi (fun zx3 ezx3 => ?_)
  obtain rfl : x3 = zx3 := ex3.trans ezx3.symm
  refine lv_iconst (v := (2 : Int32)) hx hb dX6_predictLuma_15 (by decide) ?_
  refine lv_isub hx hb dX6_predictLuma_16 ?_
  obtain ⟨x4, ex4, hF⟩ := ltt_some hF
  refine lv_topi (fun zx4 ezx4 => ?_)
  obtain rfl : x4 = zx4 := ex4.trans ezx4.symm
  refine lv_iload_n hx hb dX6_predictLuma_17 rfl (lv_at hl 5 rfl) ?_
  refine lv_iconst (v := (2 : Int32)) hx hb dX6_predictLuma_18 (by decide) ?_
  refine lv_ishr hx hb dX6_predictLuma_19 ?_
  obtain ⟨x5, ex5, hF⟩ := ltt_some hF
  refine lv_topi (fun zx5 ezx5 => ?_)
  obtain rfl : x5 = zx5 := ex5.trans ezx5.symm
  refine lv_iconst (v := (2 : Int32)) hx hb dX6_predictLuma_20 (by decide) ?_
  refine lv_isub hx hb dX6_predictLuma_21 ?_
  obtain ⟨x6, ex6, hF⟩ := ltt_some hF
  refine lv_topi (fun zx6 ezx6 => ?_)
  obtain rfl : x6 = zx6 := ex6.trans ezx6.symm
  refine lv_iload hx hb dX6_predictLuma_22 (lv_at hl 6 rfl) ?_
  refine lv_iconst (v := (5 : Int32)) hx hb dX6_predictLuma_24 (by decide) ?_
  refine lv_iadd hx hb dX6_predictLuma_25 ?_
  obtain ⟨x7, ex7, hF⟩ := ltt_some hF
  refine lv_topi (fun zx7 ezx7 => ?_)
  obtain rfl : x7 = zx7 := ex7.trans ezx7.symm
  obtain ⟨y8, hy8, hF⟩ := bnd_some hF
  have hf9 := wA_in hD hA9 hS
  refine va_callv (va_runV (As := [va_re ad p0, .int x4, .int x6, .int x7]) (rest := []) ⟨hx, hb, hml, hown, hts⟩ (kX6_fillWindow l D ct ad Z G M s.heap.size a p0 x4 x6 x7 y8 hc hk hy8) (cwV 4 hts gX6_predictLuma_X6_fillWindow rfl rfl rfl (by decide +kernel) ⟨Nat.le_of_ble_eq_true rfl, Nat.le_of_ble_eq_true rfl⟩) ⟨fun a U g mk q => by obtain ⟨q0, q1, qP, qK, qD, qZ, qN⟩ := q; exact ⟨q0, q1, qP, va_K.moved (u := U) (U := U.calling g mk a) (Vm.Alike.refl U.vm) qK, qD, sF.moved (u := U) (U := U.calling g mk a) (Vm.Alike.refl U.vm) qZ, nF.same rfl qN⟩, va_recv hK hP (ci := 6) (q0 := a) rfl (wld_o ct ad G M hc hk (by decide)), fun U hU hW => ⟨rfl, by rw [hU], by rw [hU]; exact hP, va_K.moved hW.alike hK, hD.weaken (fun _ _ _ _ => trivial), by rw [hU]; exact ((hZ.kept hS.2.1).narrow hf9).moved hW.alike, hN.warm hW⟩⟩ rfl rfl hl.1 rfl (lv_room (Nat.le_of_ble_eq_true rfl)) dX6_predictLuma_26 ⟨(Nat.zero_le _), (Nat.zero_le _)⟩) hS (fun q _ h => hf9 q h) hf9 (fun u t H locs ht hvm hw hB hz1 hk1 hS => ?_)
  obtain ⟨hP, hK9, hD9⟩ := hB
  rw [ht] at hP
  have hD := hD9.weaken (fun _ q _ h => hf9 q.1 h)
  refine lv_iconst (v := (0 : Int32)) hx hb dX6_predictLuma_29 (by decide) ?_
  refine lv_istore (lv' := [(9, .int (0 : Int32)), (8, .int x2), (7, .int x1), (0, .ref (ad a)), (1, va_re ad p0), (2, .int p1), (3, .int p2), (4, .int p3), (5, va_re ad p4), (6, .int p5)]) hx hb dX6_predictLuma_30 hl (by decide) rfl (fun ls hl => ?_)
  refine lv_iload hx hb dX6_predictLuma_32 (lv_at hl 1 rfl) ?_
  obtain ⟨y9, hy9, hF⟩ := bnd_some hF
  have J9 : ∀ (H : Heap) (locs : List Loc) (ls : Array Slot), va_P D classes (wld ct ad G y9.2) H → va_D A (wld ct ad G y9.2) → va_S A s.heap H locs → lv_has ls 12 [(9, .int y9.1), (8, .int x2), (7, .int x1), (0, .ref (ad a)), (1, va_re ad p0), (2, .int p1), (3, .int p2), (4, .int p3), (5, va_re ad p4), (6, .int p5)] → W p l e (headSpec wuX6_predictLuma ({ frames := 1, cells := 0, slots := 0, locals := 32 })).room s m ([.ref (ad a), va_re ad p0, .int p1, .int p2, .int p3, va_re ad p4, .int p5] : List Value).toArray below meth c H locs 0 0 (MQ below (va_Qv (fun (_ : Unit) => True) (fun _ t => kE D ct ad G A y t) A) ([.ref (ad a), va_re ad p0, .int p1, .int p2, .int p3, va_re ad p4, .int p5] : List Value).toArray s 0 0 A) (F0 m 150 ls []) := by
    intro H locs ls hP hD hS hl
    refine lv_iload hx hb dX6_predictLuma_150 (lv_at hl 2 rfl) ?_
    obtain ⟨y10, hy10, hF⟩ := bnd_some hF
    have J10 : ∀ (H : Heap) (locs : List Loc) (ls : Array Slot), va_P D classes (wld ct ad G y10.2) H → va_D A (wld ct ad G y10.2) → va_S A s.heap H locs → lv_has ls 12 [(9, .int y10.1), (8, .int x2), (7, .int x1), (0, .ref (ad a)), (1, va_re ad p0), (2, .int p1), (3, .int p2), (4, .int p3), (5, va_re ad p4), (6, .int p5)] → W p l e (headSpec wuX6_predictLuma ({ frames := 1, cells := 0, slots := 0, locals := 32 })).room s m ([.ref (ad a), va_re ad p0, .int p1, .int p2, .int p3, va_re ad p4, .int p5] : List Value).toArray below meth c H locs 0 0 (MQ below (va_Qv (fun (_ : Unit) => True) (fun _ t => kE D ct ad G A y t) A) ([.ref (ad a), va_re ad p0, .int p1, .int p2, .int p3, va_re ad p4, .int p5] : List Value).toArray s 0 0 A) (F0 m 189 ls []) := by
      intro H locs ls hP hD hS hl
      refine lv_iload hx hb dX6_predictLuma_189 (lv_at hl 1 rfl) ?_
      obtain ⟨y11, hy11, hF⟩ := bnd_some hF
      have J11 : ∀ (H : Heap) (locs : List Loc) (ls : Array Slot), va_P D classes (wld ct ad G y11.2) H → va_D A (wld ct ad G y11.2) → va_S A s.heap H locs → lv_has ls 12 [(9, .int y11.1), (8, .int x2), (7, .int x1), (0, .ref (ad a)), (1, va_re ad p0), (2, .int p1), (3, .int p2), (4, .int p3), (5, va_re ad p4), (6, .int p5)] → W p l e (headSpec wuX6_predictLuma ({ frames := 1, cells := 0, slots := 0, locals := 32 })).room s m ([.ref (ad a), va_re ad p0, .int p1, .int p2, .int p3, va_re ad p4, .int p5] : List Value).toArray below meth c H locs 0 0 (MQ below (va_Qv (fun (_ : Unit) => True) (fun _ t => kE D ct ad G A y t) A) ([.ref (ad a), va_re ad p0, .int p1, .int p2, .int p3, va_re ad p4, .int p5] : List Value).toArray s 0 0 A) (F0 m 228 ls []) := by
        intro H locs ls hP hD hS hl
        refine lv_iload hx hb dX6_predictLuma_228 (lv_at hl 2 rfl) ?_
        refine lv_iconst (v := (2 : Int32)) hx hb dX6_predictLuma_230 (by decide) ?_
        obtain ⟨y12, hy12, hF⟩ := bnd_some hF
        have J12 : ∀ (H : Heap) (locs : List Loc) (ls : Array Slot), va_P D classes (wld ct ad G y12) H → va_D A (wld ct ad G y12) → va_S A s.heap H locs → lv_has ls 12 [(9, .int y11.1), (8, .int x2), (7, .int x1), (0, .ref (ad a)), (1, va_re ad p0), (2, .int p1), (3, .int p2), (4, .int p3), (5, va_re ad p4), (6, .int p5)] → W p l e (headSpec wuX6_predictLuma ({ frames := 1, cells := 0, slots := 0, locals := 32 })).room s m ([.ref (ad a), va_re ad p0, .int p1, .int p2, .int p3, va_re ad p4, .int p5] : List Value).toArray below meth c H locs 0 0 (MQ below (va_Qv (fun (_ : Unit) => True) (fun _ t => kE D ct ad G A y t) A) ([.ref (ad a), va_re ad p0, .int p1, .int p2, .int p3, va_re ad p4, .int p5] : List Value).toArray s 0 0 A) (F0 m 262 ls []) := by
          intro H locs ls hP hD hS hl
          obtain rfl := Option.some.inj hF
          exact W.vret hx hb hr (fun t ht hW => ⟨⟨(), rfl, trivial, ⟨by rw [ht]; exact hP, va_K.moved hW.alike hK, hD⟩⟩, hS.F ht⟩) hS.2.2 dX6_predictLuma_262
        clear hF
        have hF := hy12
        clear hy12
        refine lv_icmp_ne (tgt := 239) hx hb dX6_predictLuma_231 (by decide) (fun c13 => ?_) (fun c13 => ?_)
        · rw [if_neg c13] at hF
          refine lv_iload hx hb dX6_predictLuma_239 (lv_at hl 1 rfl) ?_
          refine lv_iconst (v := (2 : Int32)) hx hb dX6_predictLuma_241 (by decide) ?_
          obtain ⟨y14, hy14, hF⟩ := bnd_some hF
          have J14 : ∀ (H : Heap) (locs : List Loc) (ls : Array Slot), va_P D classes (wld ct ad G y14) H → va_D A (wld ct ad G y14) → va_S A s.heap H locs → lv_has ls 12 [(9, .int y11.1), (8, .int x2), (7, .int x1), (0, .ref (ad a)), (1, va_re ad p0), (2, .int p1), (3, .int p2), (4, .int p3), (5, va_re ad p4), (6, .int p5)] → W p l e (headSpec wuX6_predictLuma ({ frames := 1, cells := 0, slots := 0, locals := 32 })).room s m ([.ref (ad a), va_re ad p0, .int p1, .int p2, .int p3, va_re ad p4, .int p5] : List Value).toArray below meth c H locs 0 0 (MQ below (va_Qv (fun (_ : Unit) => True) (fun _ t => kE D ct ad G A y t) A) ([.ref (ad a), va_re ad p0, .int p1, .int p2, .int p3, va_re ad p4, .int p5] : List Value).toArray s 0 0 A) (F0 m 262 ls []) := by
            intro H locs ls hP hD hS hl
            obtain rfl := Option.some.inj hF
            exact J12 _ _ _ hP hD hS (lv_sub hl [0, 1, 2, 3, 4, 5, 6, 7, 8, 9] rfl)
          clear hF
          have hF := hy14
          clear hy14
          refine lv_icmp_ne (tgt := 262) hx hb dX6_predictLuma_242 (by decide) (fun c15 => ?_) (fun c15 => ?_)
          · rw [if_neg c15] at hF
            obtain rfl := Option.some.inj hF
            exact J14 _ _ _ hP hD hS (lv_sub hl [0, 1, 2, 3, 4, 5, 6, 7, 8, 9] rfl)
          · rw [if_pos c15] at hF
            refine lv_iload hx hb dX6_predictLuma_245 (lv_at hl 2 rfl) ?_
            obtain ⟨y16, hy16, hF⟩ := bnd_some hF
            have J16 : ∀ (H : Heap) (locs : List Loc) (ls : Array Slot), va_P D classes (wld ct ad G y16) H → va_D A (wld ct ad G y16) → va_S A s.heap H locs → lv_has ls 12 [(9, .int y11.1), (8, .int x2), (7, .int x1), (0, .ref (ad a)), (1, va_re ad p0), (2, .int p1), (3, .int p2), (4, .int p3), (5, va_re ad p4), (6, .int p5)] → W p l e (headSpec wuX6_predictLuma ({ frames := 1, cells := 0, slots := 0, locals := 32 })).room s m ([.ref (ad a), va_re ad p0, .int p1, .int p2, .int p3, va_re ad p4, .int p5] : List Value).toArray below meth c H locs 0 0 (MQ below (va_Qv (fun (_ : Unit) => True) (fun _ t => kE D ct ad G A y t) A) ([.ref (ad a), va_re ad p0, .int p1, .int p2, .int p3, va_re ad p4, .int p5] : List Value).toArray s 0 0 A) (F0 m 262 ls []) := by
              intro H locs ls hP hD hS hl
              obtain rfl := Option.some.inj hF
              exact J14 _ _ _ hP hD hS (lv_sub hl [0, 1, 2, 3, 4, 5, 6, 7, 8, 9] rfl)
            clear hF
            have hF := hy16
            clear hy16
            refine lv_if_eq (tgt := 262) hx hb dX6_predictLuma_247 (by decide) (fun c17 => ?_) (fun c17 => ?_)
            · rw [if_pos c17] at hF
              obtain rfl := Option.some.inj hF
              exact J16 _ _ _ hP hD hS (lv_sub hl [0, 1, 2, 3, 4, 5, 6, 7, 8, 9] rfl)
            · rw [if_neg c17] at hF
              refine lv_aload_n hx hb dX6_predictLuma_250 rfl (lv_at hl 3 rfl) ?_
              refine lv_iload hx hb dX6_predictLuma_251 (lv_at hl 7 rfl) ?_
              refine lv_aloadq hx hb dX6_predictLuma_253 (lv_at hl 8 rfl) ?_
              refine lv_iload hx hb dX6_predictLuma_255 (lv_at hl 9 rfl) ?_
              refine lv_iload hx hb dX6_predictLuma_257 (lv_at hl 0 rfl) ?_
              obtain ⟨y18, hy18, hF⟩ := bnd_some hF
              have hf9 := wA_in hD hA9 hS
              refine va_callv (va_runV (As := [.int p3, va_re ad p4, .int p5, .int y11.1]) (rest := []) ⟨hx, hb, hml, hown, hts⟩ (kX6_tapBoth l D ct ad Z G y11.2 H.size a p3 p4 p5 y11.1 y18 hc hk hy18) (cwV 4 hts gX6_predictLuma_X6_tapBoth rfl rfl rfl (by decide +kernel) ⟨Nat.le_of_ble_eq_true rfl, Nat.le_of_ble_eq_true rfl⟩) ⟨fun a U g mk q => by obtain ⟨q0, q1, qP, qK, qD, qZ, qN⟩ := q; exact ⟨q0, q1, qP, va_K.moved (u := U) (U := U.calling g mk a) (Vm.Alike.refl U.vm) qK, qD, sF.moved (u := U) (U := U.calling g mk a) (Vm.Alike.refl U.vm) qZ, nF.same rfl qN⟩, va_recv hK hP (ci := 6) (q0 := a) rfl (wld_o ct ad G y11.2 hc hk (by decide)), fun U hU hW => ⟨rfl, by rw [hU], by rw [hU]; exact hP, va_K.moved hW.alike hK, hD.weaken (fun _ _ _ _ => trivial), by rw [hU]; exact ((hZ.kept hS.2.1).narrow hf9).moved hW.alike, hN.warm hW⟩⟩ rfl rfl hl.1 rfl (lv_room (Nat.le_of_ble_eq_true rfl)) dX6_predictLuma_259 ⟨(Nat.zero_le _), (Nat.zero_le _)⟩) hS (fun q _ h => hf9 q h) hf9 (fun u t H locs ht hvm hw hB hz1 hk1 hS => ?_)
              obtain ⟨hP, hK9, hD9⟩ := hB
              rw [ht] at hP
              have hD := hD9.weaken (fun _ q _ h => hf9 q.1 h)
              obtain rfl := Option.some.inj hF
              exact J16 _ _ _ hP hD hS (lv_sub hl [0, 1, 2, 3, 4, 5, 6, 7, 8, 9] rfl)
        · rw [if_pos c13] at hF
          refine lv_iload hx hb dX6_predictLuma_234 (lv_at hl 1 rfl) ?_
          obtain ⟨y19, hy19, hF⟩ := bnd_some hF
          have J19 : ∀ (H : Heap) (locs : List Loc) (ls : Array Slot), va_P D classes (wld ct ad G y19) H → va_D A (wld ct ad G y19) → va_S A s.heap H locs → lv_has ls 12 [(9, .int y11.1), (8, .int x2), (7, .int x1), (0, .ref (ad a)), (1, va_re ad p0), (2, .int p1), (3, .int p2), (4, .int p3), (5, va_re ad p4), (6, .int p5)] → W p l e (headSpec wuX6_predictLuma ({ frames := 1, cells := 0, slots := 0, locals := 32 })).room s m ([.ref (ad a), va_re ad p0, .int p1, .int p2, .int p3, va_re ad p4, .int p5] : List Value).toArray below meth c H locs 0 0 (MQ below (va_Qv (fun (_ : Unit) => True) (fun _ t => kE D ct ad G A y t) A) ([.ref (ad a), va_re ad p0, .int p1, .int p2, .int p3, va_re ad p4, .int p5] : List Value).toArray s 0 0 A) (F0 m 262 ls []) := by
            intro H locs ls hP hD hS hl
            obtain rfl := Option.some.inj hF
            exact J12 _ _ _ hP hD hS (lv_sub hl [0, 1, 2, 3, 4, 5, 6, 7, 8, 9] rfl)
          clear hF
          have hF := hy19
          clear hy19
          refine lv_if_ne (tgt := 250) hx hb dX6_predictLuma_236 (by decide) (fun c20 => ?_) (fun c20 => ?_)
          · rw [if_neg c20] at hF
            refine lv_aload_n hx hb dX6_predictLuma_250 rfl (lv_at hl 3 rfl) ?_
            refine lv_iload hx hb dX6_predictLuma_251 (lv_at hl 7 rfl) ?_
            refine lv_aloadq hx hb dX6_predictLuma_253 (lv_at hl 8 rfl) ?_
            refine lv_iload hx hb dX6_predictLuma_255 (lv_at hl 9 rfl) ?_
            refine lv_iload hx hb dX6_predictLuma_257 (lv_at hl 0 rfl) ?_
            obtain ⟨y21, hy21, hF⟩ := bnd_some hF
            have hf9 := wA_in hD hA9 hS
            refine va_callv (va_runV (As := [.int p3, va_re ad p4, .int p5, .int y11.1]) (rest := []) ⟨hx, hb, hml, hown, hts⟩ (kX6_tapBoth l D ct ad Z G y11.2 H.size a p3 p4 p5 y11.1 y21 hc hk hy21) (cwV 4 hts gX6_predictLuma_X6_tapBoth rfl rfl rfl (by decide +kernel) ⟨Nat.le_of_ble_eq_true rfl, Nat.le_of_ble_eq_true rfl⟩) ⟨fun a U g mk q => by obtain ⟨q0, q1, qP, qK, qD, qZ, qN⟩ := q; exact ⟨q0, q1, qP, va_K.moved (u := U) (U := U.calling g mk a) (Vm.Alike.refl U.vm) qK, qD, sF.moved (u := U) (U := U.calling g mk a) (Vm.Alike.refl U.vm) qZ, nF.same rfl qN⟩, va_recv hK hP (ci := 6) (q0 := a) rfl (wld_o ct ad G y11.2 hc hk (by decide)), fun U hU hW => ⟨rfl, by rw [hU], by rw [hU]; exact hP, va_K.moved hW.alike hK, hD.weaken (fun _ _ _ _ => trivial), by rw [hU]; exact ((hZ.kept hS.2.1).narrow hf9).moved hW.alike, hN.warm hW⟩⟩ rfl rfl hl.1 rfl (lv_room (Nat.le_of_ble_eq_true rfl)) dX6_predictLuma_259 ⟨(Nat.zero_le _), (Nat.zero_le _)⟩) hS (fun q _ h => hf9 q h) hf9 (fun u t H locs ht hvm hw hB hz1 hk1 hS => ?_)
            obtain ⟨hP, hK9, hD9⟩ := hB
            rw [ht] at hP
            have hD := hD9.weaken (fun _ q _ h => hf9 q.1 h)
            obtain rfl := Option.some.inj hF
            exact J19 _ _ _ hP hD hS (lv_sub hl [0, 1, 2, 3, 4, 5, 6, 7, 8, 9] rfl)
          · rw [if_pos c20] at hF
            refine lv_iload hx hb dX6_predictLuma_239 (lv_at hl 1 rfl) ?_
            refine lv_iconst (v := (2 : Int32)) hx hb dX6_predictLuma_241 (by decide) ?_
            obtain ⟨y22, hy22, hF⟩ := bnd_some hF
            have J22 : ∀ (H : Heap) (locs : List Loc) (ls : Array Slot), va_P D classes (wld ct ad G y22) H → va_D A (wld ct ad G y22) → va_S A s.heap H locs → lv_has ls 12 [(9, .int y11.1), (8, .int x2), (7, .int x1), (0, .ref (ad a)), (1, va_re ad p0), (2, .int p1), (3, .int p2), (4, .int p3), (5, va_re ad p4), (6, .int p5)] → W p l e (headSpec wuX6_predictLuma ({ frames := 1, cells := 0, slots := 0, locals := 32 })).room s m ([.ref (ad a), va_re ad p0, .int p1, .int p2, .int p3, va_re ad p4, .int p5] : List Value).toArray below meth c H locs 0 0 (MQ below (va_Qv (fun (_ : Unit) => True) (fun _ t => kE D ct ad G A y t) A) ([.ref (ad a), va_re ad p0, .int p1, .int p2, .int p3, va_re ad p4, .int p5] : List Value).toArray s 0 0 A) (F0 m 262 ls []) := by
              intro H locs ls hP hD hS hl
              obtain rfl := Option.some.inj hF
              exact J19 _ _ _ hP hD hS (lv_sub hl [0, 1, 2, 3, 4, 5, 6, 7, 8, 9] rfl)
            clear hF
            have hF := hy22
            clear hy22
            refine lv_icmp_ne (tgt := 262) hx hb dX6_predictLuma_242 (by decide) (fun c23 => ?_) (fun c23 => ?_)
            · rw [if_neg c23] at hF
              obtain rfl := Option.some.inj hF
              exact J22 _ _ _ hP hD hS (lv_sub hl [0, 1, 2, 3, 4, 5, 6, 7, 8, 9] rfl)
            · rw [if_pos c23] at hF
              refine lv_iload hx hb dX6_predictLuma_245 (lv_at hl 2 rfl) ?_
              obtain ⟨y24, hy24, hF⟩ := bnd_some hF
              have J24 : ∀ (H : Heap) (locs : List Loc) (ls : Array Slot), va_P D classes (wld ct ad G y24) H → va_D A (wld ct ad G y24) → va_S A s.heap H locs → lv_has ls 12 [(9, .int y11.1), (8, .int x2), (7, .int x1), (0, .ref (ad a)), (1, va_re ad p0), (2, .int p1), (3, .int p2), (4, .int p3), (5, va_re ad p4), (6, .int p5)] → W p l e (headSpec wuX6_predictLuma ({ frames := 1, cells := 0, slots := 0, locals := 32 })).room s m ([.ref (ad a), va_re ad p0, .int p1, .int p2, .int p3, va_re ad p4, .int p5] : List Value).toArray below meth c H locs 0 0 (MQ below (va_Qv (fun (_ : Unit) => True) (fun _ t => kE D ct ad G A y t) A) ([.ref (ad a), va_re ad p0, .int p1, .int p2, .int p3, va_re ad p4, .int p5] : List Value).toArray s 0 0 A) (F0 m 262 ls []) := by
                intro H locs ls hP hD hS hl
                obtain rfl := Option.some.inj hF
                exact J22 _ _ _ hP hD hS (lv_sub hl [0, 1, 2, 3, 4, 5, 6, 7, 8, 9] rfl)
              clear hF
              have hF := hy24
              clear hy24
              refine lv_if_eq (tgt := 262) hx hb dX6_predictLuma_247 (by decide) (fun c25 => ?_) (fun c25 => ?_)
              · rw [if_pos c25] at hF
                obtain rfl := Option.some.inj hF
                exact J24 _ _ _ hP hD hS (lv_sub hl [0, 1, 2, 3, 4, 5, 6, 7, 8, 9] rfl)
              · rw [if_neg c25] at hF
                refine lv_aload_n hx hb dX6_predictLuma_250 rfl (lv_at hl 3 rfl) ?_
                refine lv_iload hx hb dX6_predictLuma_251 (lv_at hl 7 rfl) ?_
                refine lv_aloadq hx hb dX6_predictLuma_253 (lv_at hl 8 rfl) ?_
                refine lv_iload hx hb dX6_predictLuma_255 (lv_at hl 9 rfl) ?_
                refine lv_iload hx hb dX6_predictLuma_257 (lv_at hl 0 rfl) ?_
                obtain ⟨y26, hy26, hF⟩ := bnd_some hF
                have hf9 := wA_in hD hA9 hS
                refine va_callv (va_runV (As := [.int p3, va_re ad p4, .int p5, .int y11.1]) (rest := []) ⟨hx, hb, hml, hown, hts⟩ (kX6_tapBoth l D ct ad Z G y11.2 H.size a p3 p4 p5 y11.1 y26 hc hk hy26) (cwV 4 hts gX6_predictLuma_X6_tapBoth rfl rfl rfl (by decide +kernel) ⟨Nat.le_of_ble_eq_true rfl, Nat.le_of_ble_eq_true rfl⟩) ⟨fun a U g mk q => by obtain ⟨q0, q1, qP, qK, qD, qZ, qN⟩ := q; exact ⟨q0, q1, qP, va_K.moved (u := U) (U := U.calling g mk a) (Vm.Alike.refl U.vm) qK, qD, sF.moved (u := U) (U := U.calling g mk a) (Vm.Alike.refl U.vm) qZ, nF.same rfl qN⟩, va_recv hK hP (ci := 6) (q0 := a) rfl (wld_o ct ad G y11.2 hc hk (by decide)), fun U hU hW => ⟨rfl, by rw [hU], by rw [hU]; exact hP, va_K.moved hW.alike hK, hD.weaken (fun _ _ _ _ => trivial), by rw [hU]; exact ((hZ.kept hS.2.1).narrow hf9).moved hW.alike, hN.warm hW⟩⟩ rfl rfl hl.1 rfl (lv_room (Nat.le_of_ble_eq_true rfl)) dX6_predictLuma_259 ⟨(Nat.zero_le _), (Nat.zero_le _)⟩) hS (fun q _ h => hf9 q h) hf9 (fun u t H locs ht hvm hw hB hz1 hk1 hS => ?_)
                obtain ⟨hP, hK9, hD9⟩ := hB
                rw [ht] at hP
                have hD := hD9.weaken (fun _ q _ h => hf9 q.1 h)
                obtain rfl := Option.some.inj hF
                exact J24 _ _ _ hP hD hS (lv_sub hl [0, 1, 2, 3, 4, 5, 6, 7, 8, 9] rfl)
      clear hF
      have hF := hy11
      clear hy11
      refine lv_if_eq (tgt := 228) hx hb dX6_predictLuma_191 (by decide) (fun c27 => ?_) (fun c27 => ?_)
      · rw [if_pos c27] at hF
        obtain rfl := Option.some.inj hF
        exact J11 _ _ _ hP hD hS (lv_sub hl [0, 1, 2, 3, 4, 5, 6, 7, 8, 9] rfl)
      · rw [if_neg c27] at hF
        refine lv_iload hx hb dX6_predictLuma_194 (lv_at hl 2 rfl) ?_
        refine lv_iconst (v := (2 : Int32)) hx hb dX6_predictLuma_196 (by decide) ?_
        obtain ⟨y28, hy28, hF⟩ := bnd_some hF
        have J28 : ∀ (H : Heap) (locs : List Loc) (ls : Array Slot), va_P D classes (wld ct ad G y28.2) H → va_D A (wld ct ad G y28.2) → va_S A s.heap H locs → lv_has ls 12 [(9, .int y28.1), (8, .int x2), (7, .int x1), (0, .ref (ad a)), (1, va_re ad p0), (2, .int p1), (3, .int p2), (4, .int p3), (5, va_re ad p4), (6, .int p5)] → W p l e (headSpec wuX6_predictLuma ({ frames := 1, cells := 0, slots := 0, locals := 32 })).room s m ([.ref (ad a), va_re ad p0, .int p1, .int p2, .int p3, va_re ad p4, .int p5] : List Value).toArray below meth c H locs 0 0 (MQ below (va_Qv (fun (_ : Unit) => True) (fun _ t => kE D ct ad G A y t) A) ([.ref (ad a), va_re ad p0, .int p1, .int p2, .int p3, va_re ad p4, .int p5] : List Value).toArray s 0 0 A) (F0 m 228 ls []) := by
          intro H locs ls hP hD hS hl
          obtain rfl := Option.some.inj hF
          exact J11 _ _ _ hP hD hS (lv_sub hl [0, 1, 2, 3, 4, 5, 6, 7, 8, 9] rfl)
        clear hF
        have hF := hy28
        clear hy28
        refine lv_icmp_eq (tgt := 228) hx hb dX6_predictLuma_197 (by decide) (fun c29 => ?_) (fun c29 => ?_)
        · rw [if_pos c29] at hF
          obtain rfl := Option.some.inj hF
          exact J28 _ _ _ hP hD hS (lv_sub hl [0, 1, 2, 3, 4, 5, 6, 7, 8, 9] rfl)
        · rw [if_neg c29] at hF
          refine lv_aload_n hx hb dX6_predictLuma_200 rfl (lv_at hl 3 rfl) ?_
          refine lv_iload hx hb dX6_predictLuma_201 (lv_at hl 7 rfl) ?_
          refine lv_iconst (v := (2 : Int32)) hx hb dX6_predictLuma_203 (by decide) ?_
          refine lv_iload hx hb dX6_predictLuma_204 (lv_at hl 2 rfl) ?_
          refine lv_iconst (v := (3 : Int32)) hx hb dX6_predictLuma_206 (by decide) ?_
          obtain ⟨y30, hy30, hF⟩ := bnd_some hF
          have J30 : ∀ (H : Heap) (locs : List Loc) (ls : Array Slot), va_P D classes (wld ct ad G y10.2) H → va_D A (wld ct ad G y10.2) → va_S A s.heap H locs → lv_has ls 12 [(9, .int y10.1), (8, .int x2), (7, .int x1), (0, .ref (ad a)), (1, va_re ad p0), (2, .int p1), (3, .int p2), (4, .int p3), (5, va_re ad p4), (6, .int p5)] → W p l e (headSpec wuX6_predictLuma ({ frames := 1, cells := 0, slots := 0, locals := 32 })).room s m ([.ref (ad a), va_re ad p0, .int p1, .int p2, .int p3, va_re ad p4, .int p5] : List Value).toArray below meth c H locs 0 0 (MQ below (va_Qv (fun (_ : Unit) => True) (fun _ t => kE D ct ad G A y t) A) ([.ref (ad a), va_re ad p0, .int p1, .int p2, .int p3, va_re ad p4, .int p5] : List Value).toArray s 0 0 A) (F0 m 215 ls [.int y30, .int (2 : Int32), .int p3, .ref (ad a)]) := by
            intro H locs ls hP hD hS hl
            refine lv_iadd hx hb dX6_predictLuma_215 ?_
            obtain ⟨x31, ex31, hF⟩ := ltt_some hF
            refine lv_topi (fun zx31 ezx31 => ?_)
            obtain rfl : x31 = zx31 := ex31.trans ezx31.symm
            refine lv_aloadq hx hb dX6_predictLuma_216 (lv_at hl 8 rfl) ?_
            refine lv_iload hx hb dX6_predictLuma_218 (lv_at hl 9 rfl) ?_
            refine lv_iload hx hb dX6_predictLuma_220 (lv_at hl 0 rfl) ?_
            obtain ⟨y32, hy32, hF⟩ := bnd_some hF
            have hf9 := wA_in hD hA9 hS
            refine va_callv (va_runV (As := [.int p3, .int x31, va_re ad p4, .int p5, .int y10.1]) (rest := []) ⟨hx, hb, hml, hown, hts⟩ (kX6_tapColumns l D ct ad Z G y10.2 H.size a p3 x31 p4 p5 y10.1 y32 hc hk hy32) (cwV 5 hts gX6_predictLuma_X6_tapColumns rfl rfl rfl (by decide +kernel) ⟨Nat.le_of_ble_eq_true rfl, Nat.le_of_ble_eq_true rfl⟩) ⟨fun a U g mk q => by obtain ⟨q0, q1, qP, qK, qD, qZ, qN⟩ := q; exact ⟨q0, q1, qP, va_K.moved (u := U) (U := U.calling g mk a) (Vm.Alike.refl U.vm) qK, qD, sF.moved (u := U) (U := U.calling g mk a) (Vm.Alike.refl U.vm) qZ, nF.same rfl qN⟩, va_recv hK hP (ci := 6) (q0 := a) rfl (wld_o ct ad G y10.2 hc hk (by decide)), fun U hU hW => ⟨rfl, by rw [hU], by rw [hU]; exact hP, va_K.moved hW.alike hK, hD.weaken (fun _ _ _ _ => trivial), by rw [hU]; exact ((hZ.kept hS.2.1).narrow hf9).moved hW.alike, hN.warm hW⟩⟩ rfl rfl hl.1 rfl (lv_room (Nat.le_of_ble_eq_true rfl)) dX6_predictLuma_222 ⟨(Nat.zero_le _), (Nat.zero_le _)⟩) hS (fun q _ h => hf9 q h) hf9 (fun u t H locs ht hvm hw hB hz1 hk1 hS => ?_)
            obtain ⟨hP, hK9, hD9⟩ := hB
            rw [ht] at hP
            have hD := hD9.weaken (fun _ q _ h => hf9 q.1 h)
            refine lv_iconst (v := (1 : Int32)) hx hb dX6_predictLuma_225 (by decide) ?_
            refine lv_istore (lv' := [(9, .int (1 : Int32)), (8, .int x2), (7, .int x1), (0, .ref (ad a)), (1, va_re ad p0), (2, .int p1), (3, .int p2), (4, .int p3), (5, va_re ad p4), (6, .int p5)]) hx hb dX6_predictLuma_226 hl (by decide) rfl (fun ls hl => ?_)
            obtain rfl := Option.some.inj hF
            exact J28 _ _ _ hP hD hS (lv_sub hl [0, 1, 2, 3, 4, 5, 6, 7, 8, 9] rfl)
          clear hF
          have hF := hy30
          clear hy30
          refine lv_icmp_ne (tgt := 214) hx hb dX6_predictLuma_207 (by decide) (fun c33 => ?_) (fun c33 => ?_)
          · rw [if_neg c33] at hF
            refine lv_iconst (v := (0 : Int32)) hx hb dX6_predictLuma_214 (by decide) ?_
            obtain rfl := Option.some.inj hF
            exact J30 _ _ _ hP hD hS (lv_sub hl [0, 1, 2, 3, 4, 5, 6, 7, 8, 9] rfl)
          · rw [if_pos c33] at hF
            refine lv_iconst (v := (1 : Int32)) hx hb dX6_predictLuma_210 (by decide) ?_
            refine lv_goto (tgt := 215) hx hb dX6_predictLuma_211 (by decide) ?_
            obtain rfl := Option.some.inj hF
            exact J30 _ _ _ hP hD hS (lv_sub hl [0, 1, 2, 3, 4, 5, 6, 7, 8, 9] rfl)
    clear hF
    have hF := hy10
    clear hy10
    refine lv_if_eq (tgt := 189) hx hb dX6_predictLuma_152 (by decide) (fun c34 => ?_) (fun c34 => ?_)
    · rw [if_pos c34] at hF
      obtain rfl := Option.some.inj hF
      exact J10 _ _ _ hP hD hS (lv_sub hl [0, 1, 2, 3, 4, 5, 6, 7, 8, 9] rfl)
    · rw [if_neg c34] at hF
      refine lv_iload hx hb dX6_predictLuma_155 (lv_at hl 1 rfl) ?_
      refine lv_iconst (v := (2 : Int32)) hx hb dX6_predictLuma_157 (by decide) ?_
      obtain ⟨y35, hy35, hF⟩ := bnd_some hF
      have J35 : ∀ (H : Heap) (locs : List Loc) (ls : Array Slot), va_P D classes (wld ct ad G y35.2) H → va_D A (wld ct ad G y35.2) → va_S A s.heap H locs → lv_has ls 12 [(9, .int y35.1), (8, .int x2), (7, .int x1), (0, .ref (ad a)), (1, va_re ad p0), (2, .int p1), (3, .int p2), (4, .int p3), (5, va_re ad p4), (6, .int p5)] → W p l e (headSpec wuX6_predictLuma ({ frames := 1, cells := 0, slots := 0, locals := 32 })).room s m ([.ref (ad a), va_re ad p0, .int p1, .int p2, .int p3, va_re ad p4, .int p5] : List Value).toArray below meth c H locs 0 0 (MQ below (va_Qv (fun (_ : Unit) => True) (fun _ t => kE D ct ad G A y t) A) ([.ref (ad a), va_re ad p0, .int p1, .int p2, .int p3, va_re ad p4, .int p5] : List Value).toArray s 0 0 A) (F0 m 189 ls []) := by
        intro H locs ls hP hD hS hl
        obtain rfl := Option.some.inj hF
        exact J10 _ _ _ hP hD hS (lv_sub hl [0, 1, 2, 3, 4, 5, 6, 7, 8, 9] rfl)
      clear hF
      have hF := hy35
      clear hy35
      refine lv_icmp_eq (tgt := 189) hx hb dX6_predictLuma_158 (by decide) (fun c36 => ?_) (fun c36 => ?_)
      · rw [if_pos c36] at hF
        obtain rfl := Option.some.inj hF
        exact J35 _ _ _ hP hD hS (lv_sub hl [0, 1, 2, 3, 4, 5, 6, 7, 8, 9] rfl)
      · rw [if_neg c36] at hF
        refine lv_aload_n hx hb dX6_predictLuma_161 rfl (lv_at hl 3 rfl) ?_
        refine lv_iload hx hb dX6_predictLuma_162 (lv_at hl 7 rfl) ?_
        refine lv_iconst (v := (2 : Int32)) hx hb dX6_predictLuma_164 (by decide) ?_
        refine lv_iload hx hb dX6_predictLuma_165 (lv_at hl 1 rfl) ?_
        refine lv_iconst (v := (3 : Int32)) hx hb dX6_predictLuma_167 (by decide) ?_
        obtain ⟨y37, hy37, hF⟩ := bnd_some hF
        have J37 : ∀ (H : Heap) (locs : List Loc) (ls : Array Slot), va_P D classes (wld ct ad G y9.2) H → va_D A (wld ct ad G y9.2) → va_S A s.heap H locs → lv_has ls 12 [(9, .int y9.1), (8, .int x2), (7, .int x1), (0, .ref (ad a)), (1, va_re ad p0), (2, .int p1), (3, .int p2), (4, .int p3), (5, va_re ad p4), (6, .int p5)] → W p l e (headSpec wuX6_predictLuma ({ frames := 1, cells := 0, slots := 0, locals := 32 })).room s m ([.ref (ad a), va_re ad p0, .int p1, .int p2, .int p3, va_re ad p4, .int p5] : List Value).toArray below meth c H locs 0 0 (MQ below (va_Qv (fun (_ : Unit) => True) (fun _ t => kE D ct ad G A y t) A) ([.ref (ad a), va_re ad p0, .int p1, .int p2, .int p3, va_re ad p4, .int p5] : List Value).toArray s 0 0 A) (F0 m 176 ls [.int y37, .int (2 : Int32), .int p3, .ref (ad a)]) := by
          intro H locs ls hP hD hS hl
          refine lv_iadd hx hb dX6_predictLuma_176 ?_
          obtain ⟨x38, ex38, hF⟩ := ltt_some hF
          refine lv_topi (fun zx38 ezx38 => ?_)
          obtain rfl : x38 = zx38 := ex38.trans ezx38.symm
          refine lv_aloadq hx hb dX6_predictLuma_177 (lv_at hl 8 rfl) ?_
          refine lv_iload hx hb dX6_predictLuma_179 (lv_at hl 9 rfl) ?_
          refine lv_iload hx hb dX6_predictLuma_181 (lv_at hl 0 rfl) ?_
          obtain ⟨y39, hy39, hF⟩ := bnd_some hF
          have hf9 := wA_in hD hA9 hS
          refine va_callv (va_runV (As := [.int p3, .int x38, va_re ad p4, .int p5, .int y9.1]) (rest := []) ⟨hx, hb, hml, hown, hts⟩ (kX6_tapRows l D ct ad Z G y9.2 H.size a p3 x38 p4 p5 y9.1 y39 hc hk hy39) (cwV 5 hts gX6_predictLuma_X6_tapRows rfl rfl rfl (by decide +kernel) ⟨Nat.le_of_ble_eq_true rfl, Nat.le_of_ble_eq_true rfl⟩) ⟨fun a U g mk q => by obtain ⟨q0, q1, qP, qK, qD, qZ, qN⟩ := q; exact ⟨q0, q1, qP, va_K.moved (u := U) (U := U.calling g mk a) (Vm.Alike.refl U.vm) qK, qD, sF.moved (u := U) (U := U.calling g mk a) (Vm.Alike.refl U.vm) qZ, nF.same rfl qN⟩, va_recv hK hP (ci := 6) (q0 := a) rfl (wld_o ct ad G y9.2 hc hk (by decide)), fun U hU hW => ⟨rfl, by rw [hU], by rw [hU]; exact hP, va_K.moved hW.alike hK, hD.weaken (fun _ _ _ _ => trivial), by rw [hU]; exact ((hZ.kept hS.2.1).narrow hf9).moved hW.alike, hN.warm hW⟩⟩ rfl rfl hl.1 rfl (lv_room (Nat.le_of_ble_eq_true rfl)) dX6_predictLuma_183 ⟨(Nat.zero_le _), (Nat.zero_le _)⟩) hS (fun q _ h => hf9 q h) hf9 (fun u t H locs ht hvm hw hB hz1 hk1 hS => ?_)
          obtain ⟨hP, hK9, hD9⟩ := hB
          rw [ht] at hP
          have hD := hD9.weaken (fun _ q _ h => hf9 q.1 h)
          refine lv_iconst (v := (1 : Int32)) hx hb dX6_predictLuma_186 (by decide) ?_
          refine lv_istore (lv' := [(9, .int (1 : Int32)), (8, .int x2), (7, .int x1), (0, .ref (ad a)), (1, va_re ad p0), (2, .int p1), (3, .int p2), (4, .int p3), (5, va_re ad p4), (6, .int p5)]) hx hb dX6_predictLuma_187 hl (by decide) rfl (fun ls hl => ?_)
          obtain rfl := Option.some.inj hF
          exact J35 _ _ _ hP hD hS (lv_sub hl [0, 1, 2, 3, 4, 5, 6, 7, 8, 9] rfl)
        clear hF
        have hF := hy37
        clear hy37
        refine lv_icmp_ne (tgt := 175) hx hb dX6_predictLuma_168 (by decide) (fun c40 => ?_) (fun c40 => ?_)
        · rw [if_neg c40] at hF
          refine lv_iconst (v := (0 : Int32)) hx hb dX6_predictLuma_175 (by decide) ?_
          obtain rfl := Option.some.inj hF
          exact J37 _ _ _ hP hD hS (lv_sub hl [0, 1, 2, 3, 4, 5, 6, 7, 8, 9] rfl)
        · rw [if_pos c40] at hF
          refine lv_iconst (v := (1 : Int32)) hx hb dX6_predictLuma_171 (by decide) ?_
          refine lv_goto (tgt := 176) hx hb dX6_predictLuma_172 (by decide) ?_
          obtain rfl := Option.some.inj hF
          exact J37 _ _ _ hP hD hS (lv_sub hl [0, 1, 2, 3, 4, 5, 6, 7, 8, 9] rfl)
  clear hF
  have hF := hy9
  clear hy9
  refine lv_if_ne (tgt := 43) hx hb dX6_predictLuma_34 (by decide) (fun c41 => ?_) (fun c41 => ?_)
  · rw [if_neg c41] at hF
    refine lv_iload hx hb dX6_predictLuma_43 (lv_at hl 2 rfl) ?_
    obtain ⟨y42, hy42, hF⟩ := bnd_some hF
    have J42 : ∀ (H : Heap) (locs : List Loc) (ls : Array Slot), va_P D classes (wld ct ad G y42.2) H → va_D A (wld ct ad G y42.2) → va_S A s.heap H locs → lv_has ls 12 [(9, .int y42.1), (8, .int x2), (7, .int x1), (0, .ref (ad a)), (1, va_re ad p0), (2, .int p1), (3, .int p2), (4, .int p3), (5, va_re ad p4), (6, .int p5)] → W p l e (headSpec wuX6_predictLuma ({ frames := 1, cells := 0, slots := 0, locals := 32 })).room s m ([.ref (ad a), va_re ad p0, .int p1, .int p2, .int p3, va_re ad p4, .int p5] : List Value).toArray below meth c H locs 0 0 (MQ below (va_Qv (fun (_ : Unit) => True) (fun _ t => kE D ct ad G A y t) A) ([.ref (ad a), va_re ad p0, .int p1, .int p2, .int p3, va_re ad p4, .int p5] : List Value).toArray s 0 0 A) (F0 m 150 ls []) := by
      intro H locs ls hP hD hS hl
      obtain rfl := Option.some.inj hF
      exact J9 _ _ _ hP hD hS (lv_sub hl [0, 1, 2, 3, 4, 5, 6, 7, 8, 9] rfl)
    clear hF
    have hF := hy42
    clear hy42
    refine lv_if_ne (tgt := 150) hx hb dX6_predictLuma_45 (by decide) (fun c43 => ?_) (fun c43 => ?_)
    · rw [if_neg c43] at hF
      obtain rfl := Option.some.inj hF
      exact J42 _ _ _ hP hD hS (lv_sub hl [0, 1, 2, 3, 4, 5, 6, 7, 8, 9] rfl)
    · rw [if_pos c43] at hF
      refine lv_iload hx hb dX6_predictLuma_48 (lv_at hl 1 rfl) ?_
      refine lv_iconst (v := (2 : Int32)) hx hb dX6_predictLuma_50 (by decide) ?_
      obtain ⟨y44, hy44, hF⟩ := bnd_some hF
      have J44 : ∀ (H : Heap) (locs : List Loc) (ls : Array Slot), va_P D classes (wld ct ad G y44.2) H → va_D A (wld ct ad G y44.2) → va_S A s.heap H locs → lv_has ls 12 [(9, .int y44.1), (8, .int x2), (7, .int x1), (0, .ref (ad a)), (1, va_re ad p0), (2, .int p1), (3, .int p2), (4, .int p3), (5, va_re ad p4), (6, .int p5)] → W p l e (headSpec wuX6_predictLuma ({ frames := 1, cells := 0, slots := 0, locals := 32 })).room s m ([.ref (ad a), va_re ad p0, .int p1, .int p2, .int p3, va_re ad p4, .int p5] : List Value).toArray below meth c H locs 0 0 (MQ below (va_Qv (fun (_ : Unit) => True) (fun _ t => kE D ct ad G A y t) A) ([.ref (ad a), va_re ad p0, .int p1, .int p2, .int p3, va_re ad p4, .int p5] : List Value).toArray s 0 0 A) (F0 m 150 ls []) := by
        intro H locs ls hP hD hS hl
        obtain rfl := Option.some.inj hF
        exact J42 _ _ _ hP hD hS (lv_sub hl [0, 1, 2, 3, 4, 5, 6, 7, 8, 9] rfl)
      clear hF
      have hF := hy44
      clear hy44
      refine lv_icmp_eq (tgt := 150) hx hb dX6_predictLuma_51 (by decide) (fun c45 => ?_) (fun c45 => ?_)
      · rw [if_pos c45] at hF
        obtain rfl := Option.some.inj hF
        exact J44 _ _ _ hP hD hS (lv_sub hl [0, 1, 2, 3, 4, 5, 6, 7, 8, 9] rfl)
      · rw [if_neg c45] at hF
        refine lv_iconst (v := (2 : Int32)) hx hb dX6_predictLuma_54 (by decide) ?_
        refine lv_iload hx hb dX6_predictLuma_55 (lv_at hl 1 rfl) ?_
        refine lv_iconst (v := (3 : Int32)) hx hb dX6_predictLuma_57 (by decide) ?_
        obtain ⟨y46, hy46, hF⟩ := bnd_some hF
        have J46 : ∀ (H : Heap) (locs : List Loc) (ls : Array Slot), va_P D classes (wld ct ad G y8) H → va_D A (wld ct ad G y8) → va_S A s.heap H locs → lv_has ls 12 [(9, .int (0 : Int32)), (8, .int x2), (7, .int x1), (0, .ref (ad a)), (1, va_re ad p0), (2, .int p1), (3, .int p2), (4, .int p3), (5, va_re ad p4), (6, .int p5)] → W p l e (headSpec wuX6_predictLuma ({ frames := 1, cells := 0, slots := 0, locals := 32 })).room s m ([.ref (ad a), va_re ad p0, .int p1, .int p2, .int p3, va_re ad p4, .int p5] : List Value).toArray below meth c H locs 0 0 (MQ below (va_Qv (fun (_ : Unit) => True) (fun _ t => kE D ct ad G A y t) A) ([.ref (ad a), va_re ad p0, .int p1, .int p2, .int p3, va_re ad p4, .int p5] : List Value).toArray s 0 0 A) (F0 m 66 ls [.int y46, .int (2 : Int32)]) := by
          intro H locs ls hP hD hS hl
          refine lv_iadd hx hb dX6_predictLuma_66 ?_
          obtain ⟨x47, ex47, hF⟩ := ltt_some hF
          refine lv_topi (fun zx47 ezx47 => ?_)
          obtain rfl : x47 = zx47 := ex47.trans ezx47.symm
          refine lv_bipush (v := (21 : Int32)) hx hb dX6_predictLuma_67 (by decide) ?_
          refine lv_imul hx hb dX6_predictLuma_69 ?_
          obtain ⟨x48, ex48, hF⟩ := ltt_some hF
          refine lv_topi (fun zx48 ezx48 => ?_)
          obtain rfl : x48 = zx48 := ex48.trans ezx48.symm
          refine lv_iconst (v := (2 : Int32)) hx hb dX6_predictLuma_70 (by decide) ?_
          refine lv_iadd hx hb dX6_predictLuma_71 ?_
          obtain ⟨x49, ex49, hF⟩ := ltt_some hF
          refine lv_topi (fun zx49 ezx49 => ?_)
          obtain rfl : x49 = zx49 := ex49.trans ezx49.symm
          refine lv_iload hx hb dX6_predictLuma_72 (lv_at hl 2 rfl) ?_
          refine lv_iconst (v := (3 : Int32)) hx hb dX6_predictLuma_74 (by decide) ?_
          obtain ⟨y50, hy50, hF⟩ := bnd_some hF
          have J50 : ∀ (H : Heap) (locs : List Loc) (ls : Array Slot), va_P D classes (wld ct ad G y8) H → va_D A (wld ct ad G y8) → va_S A s.heap H locs → lv_has ls 12 [(9, .int (0 : Int32)), (8, .int x2), (7, .int x1), (0, .ref (ad a)), (1, va_re ad p0), (2, .int p1), (3, .int p2), (4, .int p3), (5, va_re ad p4), (6, .int p5)] → W p l e (headSpec wuX6_predictLuma ({ frames := 1, cells := 0, slots := 0, locals := 32 })).room s m ([.ref (ad a), va_re ad p0, .int p1, .int p2, .int p3, va_re ad p4, .int p5] : List Value).toArray below meth c H locs 0 0 (MQ below (va_Qv (fun (_ : Unit) => True) (fun _ t => kE D ct ad G A y t) A) ([.ref (ad a), va_re ad p0, .int p1, .int p2, .int p3, va_re ad p4, .int p5] : List Value).toArray s 0 0 A) (F0 m 83 ls [.int y50, .int x49]) := by
            intro H locs ls hP hD hS hl
            refine lv_iadd hx hb dX6_predictLuma_83 ?_
            obtain ⟨x51, ex51, hF⟩ := ltt_some hF
            refine lv_topi (fun zx51 ezx51 => ?_)
            obtain rfl : x51 = zx51 := ex51.trans ezx51.symm
            refine lv_istore (lv' := [(10, .int x51), (9, .int (0 : Int32)), (8, .int x2), (7, .int x1), (0, .ref (ad a)), (1, va_re ad p0), (2, .int p1), (3, .int p2), (4, .int p3), (5, va_re ad p4), (6, .int p5)]) hx hb dX6_predictLuma_84 hl (by decide) rfl (fun ls hl => ?_)
            refine lv_iconst (v := (0 : Int32)) hx hb dX6_predictLuma_86 (by decide) ?_
            refine lv_istore (lv' := [(11, .int (0 : Int32)), (10, .int x51), (9, .int (0 : Int32)), (8, .int x2), (7, .int x1), (0, .ref (ad a)), (1, va_re ad p0), (2, .int p1), (3, .int p2), (4, .int p3), (5, va_re ad p4), (6, .int p5)]) hx hb dX6_predictLuma_87 hl (by decide) rfl (fun ls hl => ?_)
            obtain ⟨y52, hy52, hF⟩ := bnd_some hF
            have K52 : ∀ (H : Heap) (locs : List Loc) (ls : Array Slot), va_P D classes (wld ct ad G y52.2) H → va_D A (wld ct ad G y52.2) → va_S A s.heap H locs → lv_has ls 12 [(11, .int y52.1), (10, .int x51), (9, .int (0 : Int32)), (8, .int x2), (7, .int x1), (0, .ref (ad a)), (1, va_re ad p0), (2, .int p1), (3, .int p2), (4, .int p3), (5, va_re ad p4), (6, .int p5)] → W p l e (headSpec wuX6_predictLuma ({ frames := 1, cells := 0, slots := 0, locals := 32 })).room s m ([.ref (ad a), va_re ad p0, .int p1, .int p2, .int p3, va_re ad p4, .int p5] : List Value).toArray below meth c H locs 0 0 (MQ below (va_Qv (fun (_ : Unit) => True) (fun _ t => kE D ct ad G A y t) A) ([.ref (ad a), va_re ad p0, .int p1, .int p2, .int p3, va_re ad p4, .int p5] : List Value).toArray s 0 0 A) (F0 m 147 ls []) := by
              intro H locs ls hP hD hS hl
              refine lv_iconst (v := (1 : Int32)) hx hb dX6_predictLuma_147 (by decide) ?_
              refine lv_istore (lv' := [(9, .int (1 : Int32)), (11, .int y52.1), (10, .int x51), (8, .int x2), (7, .int x1), (0, .ref (ad a)), (1, va_re ad p0), (2, .int p1), (3, .int p2), (4, .int p3), (5, va_re ad p4), (6, .int p5)]) hx hb dX6_predictLuma_148 hl (by decide) rfl (fun ls hl => ?_)
              obtain rfl := Option.some.inj hF
              exact J44 _ _ _ hP hD hS (lv_sub hl [0, 3, 4, 5, 6, 7, 8, 9, 10, 11] rfl)
            clear hF
            refine itr_rule (fun (s53 : Int32 × DD) => ∀ (H : Heap) (locs : List Loc) (ls : Array Slot), va_P D classes (wld ct ad G s53.2) H → va_D A (wld ct ad G s53.2) → va_S A s.heap H locs → lv_has ls 12 [(11, .int s53.1), (10, .int x51), (9, .int (0 : Int32)), (8, .int x2), (7, .int x1), (0, .ref (ad a)), (1, va_re ad p0), (2, .int p1), (3, .int p2), (4, .int p3), (5, va_re ad p4), (6, .int p5)] → W p l e (headSpec wuX6_predictLuma ({ frames := 1, cells := 0, slots := 0, locals := 32 })).room s m ([.ref (ad a), va_re ad p0, .int p1, .int p2, .int p3, va_re ad p4, .int p5] : List Value).toArray below meth c H locs 0 0 (MQ below (va_Qv (fun (_ : Unit) => True) (fun _ t => kE D ct ad G A y t) A) ([.ref (ad a), va_re ad p0, .int p1, .int p2, .int p3, va_re ad p4, .int p5] : List Value).toArray s 0 0 A) (F0 m 89 ls [])) ?_ _ _ hy52 _ _ _ hP hD hS (lv_sub hl [0, 1, 2, 3, 4, 5, 6, 7, 8, 9, 10, 11] rfl)
            rintro s53 ⟨z55, hF, hwz55⟩ H locs ls hP hD hS hl
            try dsimp only at hF
            refine lv_iload hx hb dX6_predictLuma_89 (lv_at hl 0 rfl) ?_
            refine lv_iload hx hb dX6_predictLuma_91 (lv_at hl 9 rfl) ?_
            refine lv_iload hx hb dX6_predictLuma_93 (lv_at hl 9 rfl) ?_
            refine lv_imul hx hb dX6_predictLuma_95 ?_
            obtain ⟨x56, ex56, hF⟩ := ltt_some hF
            refine lv_topi (fun zx56 ezx56 => ?_)
            obtain rfl : x56 = zx56 := ex56.trans ezx56.symm
            refine lv_icmp_ge (tgt := 147) hx hb dX6_predictLuma_96 (by decide) (fun c57 => ?_) (fun c57 => ?_)
            · rw [if_pos c57] at hF
              obtain rfl := Option.some.inj hF
              subst hwz55
              exact K52 _ _ _ hP hD hS (lv_sub hl [0, 1, 2, 3, 4, 5, 6, 7, 8, 9, 10, 11] rfl)
            · rw [if_neg c57] at hF
              refine lv_aloadq hx hb dX6_predictLuma_99 (lv_at hl 10 rfl) ?_
              refine lv_iload hx hb dX6_predictLuma_101 (lv_at hl 11 rfl) ?_
              refine lv_iload hx hb dX6_predictLuma_103 (lv_at hl 0 rfl) ?_
              refine lv_iload hx hb dX6_predictLuma_105 (lv_at hl 9 rfl) ?_
              obtain ⟨hne, hF⟩ := chk_some hF
              refine lv_idiv hx hb dX6_predictLuma_107 hne ?_
              obtain ⟨x58, ex58, hF⟩ := ltt_some hF
              refine lv_topi (fun zx58 ezx58 => ?_)
              obtain rfl : x58 = zx58 := ex58.trans ezx58.symm
              refine lv_bipush (v := (16 : Int32)) hx hb dX6_predictLuma_108 (by decide) ?_
              refine lv_imul hx hb dX6_predictLuma_110 ?_
              obtain ⟨x59, ex59, hF⟩ := ltt_some hF
              refine lv_topi (fun zx59 ezx59 => ?_)
              obtain rfl : x59 = zx59 := ex59.trans ezx59.symm
              refine lv_iadd hx hb dX6_predictLuma_111 ?_
              obtain ⟨x60, ex60, hF⟩ := ltt_some hF
              refine lv_topi (fun zx60 ezx60 => ?_)
              obtain rfl : x60 = zx60 := ex60.trans ezx60.symm
              refine lv_iload hx hb dX6_predictLuma_112 (lv_at hl 0 rfl) ?_
              refine lv_iload hx hb dX6_predictLuma_114 (lv_at hl 9 rfl) ?_
              obtain ⟨hne, hF⟩ := chk_some hF
              refine lv_irem hx hb dX6_predictLuma_116 hne ?_
              obtain ⟨x61, ex61, hF⟩ := ltt_some hF
              refine lv_topi (fun zx61 ezx61 => ?_)
              obtain rfl : x61 = zx61 := ex61.trans ezx61.symm
              refine lv_iadd hx hb dX6_predictLuma_117 ?_
              obtain ⟨x62, ex62, hF⟩ := ltt_some hF
              refine lv_topi (fun zx62 ezx62 => ?_)
              obtain rfl : x62 = zx62 := ex62.trans ezx62.symm
              refine lv_aload_n hx hb dX6_predictLuma_118 rfl (lv_at hl 5 rfl) ?_
              refine va_get (D := D) (ci := 6) (v := va_re ad (s53.2.2 a 3)) (C := RX6) (T := TX6) (N := 14) hx hb hts (mus hf_X6) hown hK hP a (wld_o ct ad G s53.2 hc hk (by decide)) rfl 3 (by decide) (hts (.fieldLink RX6 21 "VideoSuite$Samples" "window" "[I") (mu mw_538)) (fun _ h9 => h9) rfl dX6_predictLuma_119 ?_
              refine lv_iload hx hb dX6_predictLuma_122 (lv_at hl 1 rfl) ?_
              refine lv_iload hx hb dX6_predictLuma_124 (lv_at hl 0 rfl) ?_
              refine lv_iload hx hb dX6_predictLuma_126 (lv_at hl 9 rfl) ?_
              obtain ⟨hne, hF⟩ := chk_some hF
              refine lv_idiv hx hb dX6_predictLuma_128 hne ?_
              obtain ⟨x63, ex63, hF⟩ := ltt_some hF
              refine lv_topi (fun zx63 ezx63 => ?_)
              obtain rfl : x63 = zx63 := ex63.trans ezx63.symm
              refine lv_bipush (v := (21 : Int32)) hx hb dX6_predictLuma_129 (by decide) ?_
              refine lv_imul hx hb dX6_predictLuma_131 ?_
              obtain ⟨x64, ex64, hF⟩ := ltt_some hF
              refine lv_topi (fun zx64 ezx64 => ?_)
              obtain rfl : x64 = zx64 := ex64.trans ezx64.symm
              refine lv_iadd hx hb dX6_predictLuma_132 ?_
              obtain ⟨x65, ex65, hF⟩ := ltt_some hF
              refine lv_topi (fun zx65 ezx65 => ?_)
              obtain rfl : x65 = zx65 := ex65.trans ezx65.symm
              refine lv_iload hx hb dX6_predictLuma_133 (lv_at hl 0 rfl) ?_
              refine lv_iload hx hb dX6_predictLuma_135 (lv_at hl 9 rfl) ?_
              obtain ⟨hne, hF⟩ := chk_some hF
              refine lv_irem hx hb dX6_predictLuma_137 hne ?_
              obtain ⟨x66, ex66, hF⟩ := ltt_some hF
              refine lv_topi (fun zx66 ezx66 => ?_)
              obtain rfl : x66 = zx66 := ex66.trans ezx66.symm
              refine lv_iadd hx hb dX6_predictLuma_138 ?_
              obtain ⟨x67, ex67, hF⟩ := ltt_some hF
              refine lv_topi (fun zx67 ezx67 => ?_)
              obtain rfl : x67 = zx67 := ex67.trans ezx67.symm
              obtain ⟨b68, ho68, hc68, hk68, hF⟩ := dr_some hF
              refine W_st (st' := [.int x67, .ref (ad b68), .int x62, va_re ad p4]) (by rw [va_some ho68]) ?_
              obtain ⟨hvc, hF⟩ := chk_some hF
              refine va_iald hx hb hK hP b68 1 (wld_i ct ad G s53.2 hc68 hk68) rfl hvc dX6_predictLuma_139 ?_
              obtain ⟨x69, ex69, hF⟩ := ltt_some hF
              refine lv_topi (fun zx69 ezx69 => ?_)
              obtain rfl : x69 = zx69 := ex69.trans ezx69.symm
              obtain ⟨b70, ho70, hc70, hk70, hF⟩ := dr_some hF
              refine W_st (st' := [.int x69, .int x62, .ref (ad b70)]) (by rw [va_some ho70]) ?_
              obtain ⟨hvc, hF⟩ := chk_some hF
              refine va_iast hx hb hK hP hD hS b70 1 (wld_i ct ad G s53.2 hc70 hk70) rfl hvc dX6_predictLuma_140 (fun H locs hP hD hS => ?_)
              obtain ⟨M71, eM71, hF⟩ := ltt_some hF
              rw [set_i ct ad G s53.2 hc70 hk70, ← eM71] at hP hD
              obtain ⟨x72, ex72, hF⟩ := ltt_some hF
              refine lv_iinc (v := x72) (lv' := [(11, .int x72), (10, .int x51), (9, .int (0 : Int32)), (8, .int x2), (7, .int x1), (0, .ref (ad a)), (1, va_re ad p0), (2, .int p1), (3, .int p2), (4, .int p3), (5, va_re ad p4), (6, .int p5)]) hx hb dX6_predictLuma_141 hl (k := 0) rfl (by rw [ex72]; rfl) (by decide) rfl (fun ls hl => ?_)
              refine lv_goto (tgt := 89) hx hb dX6_predictLuma_144 (by decide) ?_
              obtain rfl := Option.some.inj hF
              exact hwz55 _ _ _ hP hD hS (lv_sub hl [0, 1, 2, 3, 4, 5, 6, 7, 8, 9, 10, 11] rfl)
          clear hF
          have hF := hy50
          clear hy50
          refine lv_icmp_ne (tgt := 82) hx hb dX6_predictLuma_75 (by decide) (fun c73 => ?_) (fun c73 => ?_)
          · rw [if_neg c73] at hF
            refine lv_iconst (v := (0 : Int32)) hx hb dX6_predictLuma_82 (by decide) ?_
            obtain rfl := Option.some.inj hF
            exact J50 _ _ _ hP hD hS (lv_sub hl [0, 1, 2, 3, 4, 5, 6, 7, 8, 9] rfl)
          · rw [if_pos c73] at hF
            refine lv_iconst (v := (1 : Int32)) hx hb dX6_predictLuma_78 (by decide) ?_
            refine lv_goto (tgt := 83) hx hb dX6_predictLuma_79 (by decide) ?_
            obtain rfl := Option.some.inj hF
            exact J50 _ _ _ hP hD hS (lv_sub hl [0, 1, 2, 3, 4, 5, 6, 7, 8, 9] rfl)
        clear hF
        have hF := hy46
        clear hy46
        refine lv_icmp_ne (tgt := 65) hx hb dX6_predictLuma_58 (by decide) (fun c74 => ?_) (fun c74 => ?_)
        · rw [if_neg c74] at hF
          refine lv_iconst (v := (0 : Int32)) hx hb dX6_predictLuma_65 (by decide) ?_
          obtain rfl := Option.some.inj hF
          exact J46 _ _ _ hP hD hS (lv_sub hl [0, 1, 2, 3, 4, 5, 6, 7, 8, 9] rfl)
        · rw [if_pos c74] at hF
          refine lv_iconst (v := (1 : Int32)) hx hb dX6_predictLuma_61 (by decide) ?_
          refine lv_goto (tgt := 66) hx hb dX6_predictLuma_62 (by decide) ?_
          obtain rfl := Option.some.inj hF
          exact J46 _ _ _ hP hD hS (lv_sub hl [0, 1, 2, 3, 4, 5, 6, 7, 8, 9] rfl)
  · rw [if_pos c41] at hF
    refine lv_iload hx hb dX6_predictLuma_37 (lv_at hl 2 rfl) ?_
    refine lv_iconst (v := (2 : Int32)) hx hb dX6_predictLuma_39 (by decide) ?_
    obtain ⟨y75, hy75, hF⟩ := bnd_some hF
    have J75 : ∀ (H : Heap) (locs : List Loc) (ls : Array Slot), va_P D classes (wld ct ad G y75.2) H → va_D A (wld ct ad G y75.2) → va_S A s.heap H locs → lv_has ls 12 [(9, .int y75.1), (8, .int x2), (7, .int x1), (0, .ref (ad a)), (1, va_re ad p0), (2, .int p1), (3, .int p2), (4, .int p3), (5, va_re ad p4), (6, .int p5)] → W p l e (headSpec wuX6_predictLuma ({ frames := 1, cells := 0, slots := 0, locals := 32 })).room s m ([.ref (ad a), va_re ad p0, .int p1, .int p2, .int p3, va_re ad p4, .int p5] : List Value).toArray below meth c H locs 0 0 (MQ below (va_Qv (fun (_ : Unit) => True) (fun _ t => kE D ct ad G A y t) A) ([.ref (ad a), va_re ad p0, .int p1, .int p2, .int p3, va_re ad p4, .int p5] : List Value).toArray s 0 0 A) (F0 m 150 ls []) := by
      intro H locs ls hP hD hS hl
      obtain rfl := Option.some.inj hF
      exact J9 _ _ _ hP hD hS (lv_sub hl [0, 1, 2, 3, 4, 5, 6, 7, 8, 9] rfl)
    clear hF
    have hF := hy75
    clear hy75
    refine lv_icmp_ne (tgt := 54) hx hb dX6_predictLuma_40 (by decide) (fun c76 => ?_) (fun c76 => ?_)
    · rw [if_neg c76] at hF
      refine lv_iconst (v := (2 : Int32)) hx hb dX6_predictLuma_54 (by decide) ?_
      refine lv_iload hx hb dX6_predictLuma_55 (lv_at hl 1 rfl) ?_
      refine lv_iconst (v := (3 : Int32)) hx hb dX6_predictLuma_57 (by decide) ?_
      obtain ⟨y77, hy77, hF⟩ := bnd_some hF
      have J77 : ∀ (H : Heap) (locs : List Loc) (ls : Array Slot), va_P D classes (wld ct ad G y8) H → va_D A (wld ct ad G y8) → va_S A s.heap H locs → lv_has ls 12 [(9, .int (0 : Int32)), (8, .int x2), (7, .int x1), (0, .ref (ad a)), (1, va_re ad p0), (2, .int p1), (3, .int p2), (4, .int p3), (5, va_re ad p4), (6, .int p5)] → W p l e (headSpec wuX6_predictLuma ({ frames := 1, cells := 0, slots := 0, locals := 32 })).room s m ([.ref (ad a), va_re ad p0, .int p1, .int p2, .int p3, va_re ad p4, .int p5] : List Value).toArray below meth c H locs 0 0 (MQ below (va_Qv (fun (_ : Unit) => True) (fun _ t => kE D ct ad G A y t) A) ([.ref (ad a), va_re ad p0, .int p1, .int p2, .int p3, va_re ad p4, .int p5] : List Value).toArray s 0 0 A) (F0 m 66 ls [.int y77, .int (2 : Int32)]) := by
        intro H locs ls hP hD hS hl
        refine lv_iadd hx hb dX6_predictLuma_66 ?_
        obtain ⟨x78, ex78, hF⟩ := ltt_some hF
        refine lv_topi (fun zx78 ezx78 => ?_)
        obtain rfl : x78 = zx78 := ex78.trans ezx78.symm
        refine lv_bipush (v := (21 : Int32)) hx hb dX6_predictLuma_67 (by decide) ?_
        refine lv_imul hx hb dX6_predictLuma_69 ?_
        obtain ⟨x79, ex79, hF⟩ := ltt_some hF
        refine lv_topi (fun zx79 ezx79 => ?_)
        obtain rfl : x79 = zx79 := ex79.trans ezx79.symm
        refine lv_iconst (v := (2 : Int32)) hx hb dX6_predictLuma_70 (by decide) ?_
        refine lv_iadd hx hb dX6_predictLuma_71 ?_
        obtain ⟨x80, ex80, hF⟩ := ltt_some hF
        refine lv_topi (fun zx80 ezx80 => ?_)
        obtain rfl : x80 = zx80 := ex80.trans ezx80.symm
        refine lv_iload hx hb dX6_predictLuma_72 (lv_at hl 2 rfl) ?_
        refine lv_iconst (v := (3 : Int32)) hx hb dX6_predictLuma_74 (by decide) ?_
        obtain ⟨y81, hy81, hF⟩ := bnd_some hF
        have J81 : ∀ (H : Heap) (locs : List Loc) (ls : Array Slot), va_P D classes (wld ct ad G y8) H → va_D A (wld ct ad G y8) → va_S A s.heap H locs → lv_has ls 12 [(9, .int (0 : Int32)), (8, .int x2), (7, .int x1), (0, .ref (ad a)), (1, va_re ad p0), (2, .int p1), (3, .int p2), (4, .int p3), (5, va_re ad p4), (6, .int p5)] → W p l e (headSpec wuX6_predictLuma ({ frames := 1, cells := 0, slots := 0, locals := 32 })).room s m ([.ref (ad a), va_re ad p0, .int p1, .int p2, .int p3, va_re ad p4, .int p5] : List Value).toArray below meth c H locs 0 0 (MQ below (va_Qv (fun (_ : Unit) => True) (fun _ t => kE D ct ad G A y t) A) ([.ref (ad a), va_re ad p0, .int p1, .int p2, .int p3, va_re ad p4, .int p5] : List Value).toArray s 0 0 A) (F0 m 83 ls [.int y81, .int x80]) := by
          intro H locs ls hP hD hS hl
          refine lv_iadd hx hb dX6_predictLuma_83 ?_
          obtain ⟨x82, ex82, hF⟩ := ltt_some hF
          refine lv_topi (fun zx82 ezx82 => ?_)
          obtain rfl : x82 = zx82 := ex82.trans ezx82.symm
          refine lv_istore (lv' := [(10, .int x82), (9, .int (0 : Int32)), (8, .int x2), (7, .int x1), (0, .ref (ad a)), (1, va_re ad p0), (2, .int p1), (3, .int p2), (4, .int p3), (5, va_re ad p4), (6, .int p5)]) hx hb dX6_predictLuma_84 hl (by decide) rfl (fun ls hl => ?_)
          refine lv_iconst (v := (0 : Int32)) hx hb dX6_predictLuma_86 (by decide) ?_
          refine lv_istore (lv' := [(11, .int (0 : Int32)), (10, .int x82), (9, .int (0 : Int32)), (8, .int x2), (7, .int x1), (0, .ref (ad a)), (1, va_re ad p0), (2, .int p1), (3, .int p2), (4, .int p3), (5, va_re ad p4), (6, .int p5)]) hx hb dX6_predictLuma_87 hl (by decide) rfl (fun ls hl => ?_)
          obtain ⟨y83, hy83, hF⟩ := bnd_some hF
          have K83 : ∀ (H : Heap) (locs : List Loc) (ls : Array Slot), va_P D classes (wld ct ad G y83.2) H → va_D A (wld ct ad G y83.2) → va_S A s.heap H locs → lv_has ls 12 [(11, .int y83.1), (10, .int x82), (9, .int (0 : Int32)), (8, .int x2), (7, .int x1), (0, .ref (ad a)), (1, va_re ad p0), (2, .int p1), (3, .int p2), (4, .int p3), (5, va_re ad p4), (6, .int p5)] → W p l e (headSpec wuX6_predictLuma ({ frames := 1, cells := 0, slots := 0, locals := 32 })).room s m ([.ref (ad a), va_re ad p0, .int p1, .int p2, .int p3, va_re ad p4, .int p5] : List Value).toArray below meth c H locs 0 0 (MQ below (va_Qv (fun (_ : Unit) => True) (fun _ t => kE D ct ad G A y t) A) ([.ref (ad a), va_re ad p0, .int p1, .int p2, .int p3, va_re ad p4, .int p5] : List Value).toArray s 0 0 A) (F0 m 147 ls []) := by
            intro H locs ls hP hD hS hl
            refine lv_iconst (v := (1 : Int32)) hx hb dX6_predictLuma_147 (by decide) ?_
            refine lv_istore (lv' := [(9, .int (1 : Int32)), (11, .int y83.1), (10, .int x82), (8, .int x2), (7, .int x1), (0, .ref (ad a)), (1, va_re ad p0), (2, .int p1), (3, .int p2), (4, .int p3), (5, va_re ad p4), (6, .int p5)]) hx hb dX6_predictLuma_148 hl (by decide) rfl (fun ls hl => ?_)
            obtain rfl := Option.some.inj hF
            exact J75 _ _ _ hP hD hS (lv_sub hl [0, 3, 4, 5, 6, 7, 8, 9, 10, 11] rfl)
          clear hF
          refine itr_rule (fun (s84 : Int32 × DD) => ∀ (H : Heap) (locs : List Loc) (ls : Array Slot), va_P D classes (wld ct ad G s84.2) H → va_D A (wld ct ad G s84.2) → va_S A s.heap H locs → lv_has ls 12 [(11, .int s84.1), (10, .int x82), (9, .int (0 : Int32)), (8, .int x2), (7, .int x1), (0, .ref (ad a)), (1, va_re ad p0), (2, .int p1), (3, .int p2), (4, .int p3), (5, va_re ad p4), (6, .int p5)] → W p l e (headSpec wuX6_predictLuma ({ frames := 1, cells := 0, slots := 0, locals := 32 })).room s m ([.ref (ad a), va_re ad p0, .int p1, .int p2, .int p3, va_re ad p4, .int p5] : List Value).toArray below meth c H locs 0 0 (MQ below (va_Qv (fun (_ : Unit) => True) (fun _ t => kE D ct ad G A y t) A) ([.ref (ad a), va_re ad p0, .int p1, .int p2, .int p3, va_re ad p4, .int p5] : List Value).toArray s 0 0 A) (F0 m 89 ls [])) ?_ _ _ hy83 _ _ _ hP hD hS (lv_sub hl [0, 1, 2, 3, 4, 5, 6, 7, 8, 9, 10, 11] rfl)
          rintro s84 ⟨z86, hF, hwz86⟩ H locs ls hP hD hS hl
          try dsimp only at hF
          refine lv_iload hx hb dX6_predictLuma_89 (lv_at hl 0 rfl) ?_
          refine lv_iload hx hb dX6_predictLuma_91 (lv_at hl 9 rfl) ?_
          refine lv_iload hx hb dX6_predictLuma_93 (lv_at hl 9 rfl) ?_
          refine lv_imul hx hb dX6_predictLuma_95 ?_
          obtain ⟨x87, ex87, hF⟩ := ltt_some hF
          refine lv_topi (fun zx87 ezx87 => ?_)
          obtain rfl : x87 = zx87 := ex87.trans ezx87.symm
          refine lv_icmp_ge (tgt := 147) hx hb dX6_predictLuma_96 (by decide) (fun c88 => ?_) (fun c88 => ?_)
          · rw [if_pos c88] at hF
            obtain rfl := Option.some.inj hF
            subst hwz86
            exact K83 _ _ _ hP hD hS (lv_sub hl [0, 1, 2, 3, 4, 5, 6, 7, 8, 9, 10, 11] rfl)
          · rw [if_neg c88] at hF
            refine lv_aloadq hx hb dX6_predictLuma_99 (lv_at hl 10 rfl) ?_
            refine lv_iload hx hb dX6_predictLuma_101 (lv_at hl 11 rfl) ?_
            refine lv_iload hx hb dX6_predictLuma_103 (lv_at hl 0 rfl) ?_
            refine lv_iload hx hb dX6_predictLuma_105 (lv_at hl 9 rfl) ?_
            obtain ⟨hne, hF⟩ := chk_some hF
            refine lv_idiv hx hb dX6_predictLuma_107 hne ?_
            obtain ⟨x89, ex89, hF⟩ := ltt_some hF
            refine lv_topi (fun zx89 ezx89 => ?_)
            obtain rfl : x89 = zx89 := ex89.trans ezx89.symm
            refine lv_bipush (v := (16 : Int32)) hx hb dX6_predictLuma_108 (by decide) ?_
            refine lv_imul hx hb dX6_predictLuma_110 ?_
            obtain ⟨x90, ex90, hF⟩ := ltt_some hF
            refine lv_topi (fun zx90 ezx90 => ?_)
            obtain rfl : x90 = zx90 := ex90.trans ezx90.symm
            refine lv_iadd hx hb dX6_predictLuma_111 ?_
            obtain ⟨x91, ex91, hF⟩ := ltt_some hF
            refine lv_topi (fun zx91 ezx91 => ?_)
            obtain rfl : x91 = zx91 := ex91.trans ezx91.symm
            refine lv_iload hx hb dX6_predictLuma_112 (lv_at hl 0 rfl) ?_
            refine lv_iload hx hb dX6_predictLuma_114 (lv_at hl 9 rfl) ?_
            obtain ⟨hne, hF⟩ := chk_some hF
            refine lv_irem hx hb dX6_predictLuma_116 hne ?_
            obtain ⟨x92, ex92, hF⟩ := ltt_some hF
            refine lv_topi (fun zx92 ezx92 => ?_)
            obtain rfl : x92 = zx92 := ex92.trans ezx92.symm
            refine lv_iadd hx hb dX6_predictLuma_117 ?_
            obtain ⟨x93, ex93, hF⟩ := ltt_some hF
            refine lv_topi (fun zx93 ezx93 => ?_)
            obtain rfl : x93 = zx93 := ex93.trans ezx93.symm
            refine lv_aload_n hx hb dX6_predictLuma_118 rfl (lv_at hl 5 rfl) ?_
            refine va_get (D := D) (ci := 6) (v := va_re ad (s84.2.2 a 3)) (C := RX6) (T := TX6) (N := 14) hx hb hts (mus hf_X6) hown hK hP a (wld_o ct ad G s84.2 hc hk (by decide)) rfl 3 (by decide) (hts (.fieldLink RX6 21 "VideoSuite$Samples" "window" "[I") (mu mw_538)) (fun _ h9 => h9) rfl dX6_predictLuma_119 ?_
            refine lv_iload hx hb dX6_predictLuma_122 (lv_at hl 1 rfl) ?_
            refine lv_iload hx hb dX6_predictLuma_124 (lv_at hl 0 rfl) ?_
            refine lv_iload hx hb dX6_predictLuma_126 (lv_at hl 9 rfl) ?_
            obtain ⟨hne, hF⟩ := chk_some hF
            refine lv_idiv hx hb dX6_predictLuma_128 hne ?_
            obtain ⟨x94, ex94, hF⟩ := ltt_some hF
            refine lv_topi (fun zx94 ezx94 => ?_)
            obtain rfl : x94 = zx94 := ex94.trans ezx94.symm
            refine lv_bipush (v := (21 : Int32)) hx hb dX6_predictLuma_129 (by decide) ?_
            refine lv_imul hx hb dX6_predictLuma_131 ?_
            obtain ⟨x95, ex95, hF⟩ := ltt_some hF
            refine lv_topi (fun zx95 ezx95 => ?_)
            obtain rfl : x95 = zx95 := ex95.trans ezx95.symm
            refine lv_iadd hx hb dX6_predictLuma_132 ?_
            obtain ⟨x96, ex96, hF⟩ := ltt_some hF
            refine lv_topi (fun zx96 ezx96 => ?_)
            obtain rfl : x96 = zx96 := ex96.trans ezx96.symm
            refine lv_iload hx hb dX6_predictLuma_133 (lv_at hl 0 rfl) ?_
            refine lv_iload hx hb dX6_predictLuma_135 (lv_at hl 9 rfl) ?_
            obtain ⟨hne, hF⟩ := chk_some hF
            refine lv_irem hx hb dX6_predictLuma_137 hne ?_
            obtain ⟨x97, ex97, hF⟩ := ltt_some hF
            refine lv_topi (fun zx97 ezx97 => ?_)
            obtain rfl : x97 = zx97 := ex97.trans ezx97.symm
            refine lv_iadd hx hb dX6_predictLuma_138 ?_
            obtain ⟨x98, ex98, hF⟩ := ltt_some hF
            refine lv_topi (fun zx98 ezx98 => ?_)
            obtain rfl : x98 = zx98 := ex98.trans ezx98.symm
            obtain ⟨b99, ho99, hc99, hk99, hF⟩ := dr_some hF
            refine W_st (st' := [.int x98, .ref (ad b99), .int x93, va_re ad p4]) (by rw [va_some ho99]) ?_
            obtain ⟨hvc, hF⟩ := chk_some hF
            refine va_iald hx hb hK hP b99 1 (wld_i ct ad G s84.2 hc99 hk99) rfl hvc dX6_predictLuma_139 ?_
            obtain ⟨x100, ex100, hF⟩ := ltt_some hF
            refine lv_topi (fun zx100 ezx100 => ?_)
            obtain rfl : x100 = zx100 := ex100.trans ezx100.symm
            obtain ⟨b101, ho101, hc101, hk101, hF⟩ := dr_some hF
            refine W_st (st' := [.int x100, .int x93, .ref (ad b101)]) (by rw [va_some ho101]) ?_
            obtain ⟨hvc, hF⟩ := chk_some hF
            refine va_iast hx hb hK hP hD hS b101 1 (wld_i ct ad G s84.2 hc101 hk101) rfl hvc dX6_predictLuma_140 (fun H locs hP hD hS => ?_)
            obtain ⟨M102, eM102, hF⟩ := ltt_some hF
            rw [set_i ct ad G s84.2 hc101 hk101, ← eM102] at hP hD
            obtain ⟨x103, ex103, hF⟩ := ltt_some hF
            refine lv_iinc (v := x103) (lv' := [(11, .int x103), (10, .int x82), (9, .int (0 : Int32)), (8, .int x2), (7, .int x1), (0, .ref (ad a)), (1, va_re ad p0), (2, .int p1), (3, .int p2), (4, .int p3), (5, va_re ad p4), (6, .int p5)]) hx hb dX6_predictLuma_141 hl (k := 0) rfl (by rw [ex103]; rfl) (by decide) rfl (fun ls hl => ?_)
            refine lv_goto (tgt := 89) hx hb dX6_predictLuma_144 (by decide) ?_
            obtain rfl := Option.some.inj hF
            exact hwz86 _ _ _ hP hD hS (lv_sub hl [0, 1, 2, 3, 4, 5, 6, 7, 8, 9, 10, 11] rfl)
        clear hF
        have hF := hy81
        clear hy81
        refine lv_icmp_ne (tgt := 82) hx hb dX6_predictLuma_75 (by decide) (fun c104 => ?_) (fun c104 => ?_)
        · rw [if_neg c104] at hF
          refine lv_iconst (v := (0 : Int32)) hx hb dX6_predictLuma_82 (by decide) ?_
          obtain rfl := Option.some.inj hF
          exact J81 _ _ _ hP hD hS (lv_sub hl [0, 1, 2, 3, 4, 5, 6, 7, 8, 9] rfl)
        · rw [if_pos c104] at hF
          refine lv_iconst (v := (1 : Int32)) hx hb dX6_predictLuma_78 (by decide) ?_
          refine lv_goto (tgt := 83) hx hb dX6_predictLuma_79 (by decide) ?_
          obtain rfl := Option.some.inj hF
          exact J81 _ _ _ hP hD hS (lv_sub hl [0, 1, 2, 3, 4, 5, 6, 7, 8, 9] rfl)
      clear hF
      have hF := hy77
      clear hy77
      refine lv_icmp_ne (tgt := 65) hx hb dX6_predictLuma_58 (by decide) (fun c105 => ?_) (fun c105 => ?_)
      · rw [if_neg c105] at hF
        refine lv_iconst (v := (0 : Int32)) hx hb dX6_predictLuma_65 (by decide) ?_
        obtain rfl := Option.some.inj hF
        exact J77 _ _ _ hP hD hS (lv_sub hl [0, 1, 2, 3, 4, 5, 6, 7, 8, 9] rfl)
      · rw [if_pos c105] at hF
        refine lv_iconst (v := (1 : Int32)) hx hb dX6_predictLuma_61 (by decide) ?_
        refine lv_goto (tgt := 66) hx hb dX6_predictLuma_62 (by decide) ?_
        obtain rfl := Option.some.inj hF
        exact J77 _ _ _ hP hD hS (lv_sub hl [0, 1, 2, 3, 4, 5, 6, 7, 8, 9] rfl)
    · rw [if_pos c76] at hF
      refine lv_iload hx hb dX6_predictLuma_43 (lv_at hl 2 rfl) ?_
      obtain ⟨y106, hy106, hF⟩ := bnd_some hF
      have J106 : ∀ (H : Heap) (locs : List Loc) (ls : Array Slot), va_P D classes (wld ct ad G y106.2) H → va_D A (wld ct ad G y106.2) → va_S A s.heap H locs → lv_has ls 12 [(9, .int y106.1), (8, .int x2), (7, .int x1), (0, .ref (ad a)), (1, va_re ad p0), (2, .int p1), (3, .int p2), (4, .int p3), (5, va_re ad p4), (6, .int p5)] → W p l e (headSpec wuX6_predictLuma ({ frames := 1, cells := 0, slots := 0, locals := 32 })).room s m ([.ref (ad a), va_re ad p0, .int p1, .int p2, .int p3, va_re ad p4, .int p5] : List Value).toArray below meth c H locs 0 0 (MQ below (va_Qv (fun (_ : Unit) => True) (fun _ t => kE D ct ad G A y t) A) ([.ref (ad a), va_re ad p0, .int p1, .int p2, .int p3, va_re ad p4, .int p5] : List Value).toArray s 0 0 A) (F0 m 150 ls []) := by
        intro H locs ls hP hD hS hl
        obtain rfl := Option.some.inj hF
        exact J75 _ _ _ hP hD hS (lv_sub hl [0, 1, 2, 3, 4, 5, 6, 7, 8, 9] rfl)
      clear hF
      have hF := hy106
      clear hy106
      refine lv_if_ne (tgt := 150) hx hb dX6_predictLuma_45 (by decide) (fun c107 => ?_) (fun c107 => ?_)
      · rw [if_neg c107] at hF
        obtain rfl := Option.some.inj hF
        exact J106 _ _ _ hP hD hS (lv_sub hl [0, 1, 2, 3, 4, 5, 6, 7, 8, 9] rfl)
      · rw [if_pos c107] at hF
        refine lv_iload hx hb dX6_predictLuma_48 (lv_at hl 1 rfl) ?_
        refine lv_iconst (v := (2 : Int32)) hx hb dX6_predictLuma_50 (by decide) ?_
        obtain ⟨y108, hy108, hF⟩ := bnd_some hF
        have J108 : ∀ (H : Heap) (locs : List Loc) (ls : Array Slot), va_P D classes (wld ct ad G y108.2) H → va_D A (wld ct ad G y108.2) → va_S A s.heap H locs → lv_has ls 12 [(9, .int y108.1), (8, .int x2), (7, .int x1), (0, .ref (ad a)), (1, va_re ad p0), (2, .int p1), (3, .int p2), (4, .int p3), (5, va_re ad p4), (6, .int p5)] → W p l e (headSpec wuX6_predictLuma ({ frames := 1, cells := 0, slots := 0, locals := 32 })).room s m ([.ref (ad a), va_re ad p0, .int p1, .int p2, .int p3, va_re ad p4, .int p5] : List Value).toArray below meth c H locs 0 0 (MQ below (va_Qv (fun (_ : Unit) => True) (fun _ t => kE D ct ad G A y t) A) ([.ref (ad a), va_re ad p0, .int p1, .int p2, .int p3, va_re ad p4, .int p5] : List Value).toArray s 0 0 A) (F0 m 150 ls []) := by
          intro H locs ls hP hD hS hl
          obtain rfl := Option.some.inj hF
          exact J106 _ _ _ hP hD hS (lv_sub hl [0, 1, 2, 3, 4, 5, 6, 7, 8, 9] rfl)
        clear hF
        have hF := hy108
        clear hy108
        refine lv_icmp_eq (tgt := 150) hx hb dX6_predictLuma_51 (by decide) (fun c109 => ?_) (fun c109 => ?_)
        · rw [if_pos c109] at hF
          obtain rfl := Option.some.inj hF
          exact J108 _ _ _ hP hD hS (lv_sub hl [0, 1, 2, 3, 4, 5, 6, 7, 8, 9] rfl)
        · rw [if_neg c109] at hF
          refine lv_iconst (v := (2 : Int32)) hx hb dX6_predictLuma_54 (by decide) ?_
          refine lv_iload hx hb dX6_predictLuma_55 (lv_at hl 1 rfl) ?_
          refine lv_iconst (v := (3 : Int32)) hx hb dX6_predictLuma_57 (by decide) ?_
          obtain ⟨y110, hy110, hF⟩ := bnd_some hF
          have J110 : ∀ (H : Heap) (locs : List Loc) (ls : Array Slot), va_P D classes (wld ct ad G y8) H → va_D A (wld ct ad G y8) → va_S A s.heap H locs → lv_has ls 12 [(9, .int (0 : Int32)), (8, .int x2), (7, .int x1), (0, .ref (ad a)), (1, va_re ad p0), (2, .int p1), (3, .int p2), (4, .int p3), (5, va_re ad p4), (6, .int p5)] → W p l e (headSpec wuX6_predictLuma ({ frames := 1, cells := 0, slots := 0, locals := 32 })).room s m ([.ref (ad a), va_re ad p0, .int p1, .int p2, .int p3, va_re ad p4, .int p5] : List Value).toArray below meth c H locs 0 0 (MQ below (va_Qv (fun (_ : Unit) => True) (fun _ t => kE D ct ad G A y t) A) ([.ref (ad a), va_re ad p0, .int p1, .int p2, .int p3, va_re ad p4, .int p5] : List Value).toArray s 0 0 A) (F0 m 66 ls [.int y110, .int (2 : Int32)]) := by
            intro H locs ls hP hD hS hl
            refine lv_iadd hx hb dX6_predictLuma_66 ?_
            obtain ⟨x111, ex111, hF⟩ := ltt_some hF
            refine lv_topi (fun zx111 ezx111 => ?_)
            obtain rfl : x111 = zx111 := ex111.trans ezx111.symm
            refine lv_bipush (v := (21 : Int32)) hx hb dX6_predictLuma_67 (by decide) ?_
            refine lv_imul hx hb dX6_predictLuma_69 ?_
            obtain ⟨x112, ex112, hF⟩ := ltt_some hF
            refine lv_topi (fun zx112 ezx112 => ?_)
            obtain rfl : x112 = zx112 := ex112.trans ezx112.symm
            refine lv_iconst (v := (2 : Int32)) hx hb dX6_predictLuma_70 (by decide) ?_
            refine lv_iadd hx hb dX6_predictLuma_71 ?_
            obtain ⟨x113, ex113, hF⟩ := ltt_some hF
            refine lv_topi (fun zx113 ezx113 => ?_)
            obtain rfl : x113 = zx113 := ex113.trans ezx113.symm
            refine lv_iload hx hb dX6_predictLuma_72 (lv_at hl 2 rfl) ?_
            refine lv_iconst (v := (3 : Int32)) hx hb dX6_predictLuma_74 (by decide) ?_
            obtain ⟨y114, hy114, hF⟩ := bnd_some hF
            have J114 : ∀ (H : Heap) (locs : List Loc) (ls : Array Slot), va_P D classes (wld ct ad G y8) H → va_D A (wld ct ad G y8) → va_S A s.heap H locs → lv_has ls 12 [(9, .int (0 : Int32)), (8, .int x2), (7, .int x1), (0, .ref (ad a)), (1, va_re ad p0), (2, .int p1), (3, .int p2), (4, .int p3), (5, va_re ad p4), (6, .int p5)] → W p l e (headSpec wuX6_predictLuma ({ frames := 1, cells := 0, slots := 0, locals := 32 })).room s m ([.ref (ad a), va_re ad p0, .int p1, .int p2, .int p3, va_re ad p4, .int p5] : List Value).toArray below meth c H locs 0 0 (MQ below (va_Qv (fun (_ : Unit) => True) (fun _ t => kE D ct ad G A y t) A) ([.ref (ad a), va_re ad p0, .int p1, .int p2, .int p3, va_re ad p4, .int p5] : List Value).toArray s 0 0 A) (F0 m 83 ls [.int y114, .int x113]) := by
              intro H locs ls hP hD hS hl
              refine lv_iadd hx hb dX6_predictLuma_83 ?_
              obtain ⟨x115, ex115, hF⟩ := ltt_some hF
              refine lv_topi (fun zx115 ezx115 => ?_)
              obtain rfl : x115 = zx115 := ex115.trans ezx115.symm
              refine lv_istore (lv' := [(10, .int x115), (9, .int (0 : Int32)), (8, .int x2), (7, .int x1), (0, .ref (ad a)), (1, va_re ad p0), (2, .int p1), (3, .int p2), (4, .int p3), (5, va_re ad p4), (6, .int p5)]) hx hb dX6_predictLuma_84 hl (by decide) rfl (fun ls hl => ?_)
              refine lv_iconst (v := (0 : Int32)) hx hb dX6_predictLuma_86 (by decide) ?_
              refine lv_istore (lv' := [(11, .int (0 : Int32)), (10, .int x115), (9, .int (0 : Int32)), (8, .int x2), (7, .int x1), (0, .ref (ad a)), (1, va_re ad p0), (2, .int p1), (3, .int p2), (4, .int p3), (5, va_re ad p4), (6, .int p5)]) hx hb dX6_predictLuma_87 hl (by decide) rfl (fun ls hl => ?_)
              obtain ⟨y116, hy116, hF⟩ := bnd_some hF
              have K116 : ∀ (H : Heap) (locs : List Loc) (ls : Array Slot), va_P D classes (wld ct ad G y116.2) H → va_D A (wld ct ad G y116.2) → va_S A s.heap H locs → lv_has ls 12 [(11, .int y116.1), (10, .int x115), (9, .int (0 : Int32)), (8, .int x2), (7, .int x1), (0, .ref (ad a)), (1, va_re ad p0), (2, .int p1), (3, .int p2), (4, .int p3), (5, va_re ad p4), (6, .int p5)] → W p l e (headSpec wuX6_predictLuma ({ frames := 1, cells := 0, slots := 0, locals := 32 })).room s m ([.ref (ad a), va_re ad p0, .int p1, .int p2, .int p3, va_re ad p4, .int p5] : List Value).toArray below meth c H locs 0 0 (MQ below (va_Qv (fun (_ : Unit) => True) (fun _ t => kE D ct ad G A y t) A) ([.ref (ad a), va_re ad p0, .int p1, .int p2, .int p3, va_re ad p4, .int p5] : List Value).toArray s 0 0 A) (F0 m 147 ls []) := by
                intro H locs ls hP hD hS hl
                refine lv_iconst (v := (1 : Int32)) hx hb dX6_predictLuma_147 (by decide) ?_
                refine lv_istore (lv' := [(9, .int (1 : Int32)), (11, .int y116.1), (10, .int x115), (8, .int x2), (7, .int x1), (0, .ref (ad a)), (1, va_re ad p0), (2, .int p1), (3, .int p2), (4, .int p3), (5, va_re ad p4), (6, .int p5)]) hx hb dX6_predictLuma_148 hl (by decide) rfl (fun ls hl => ?_)
                obtain rfl := Option.some.inj hF
                exact J108 _ _ _ hP hD hS (lv_sub hl [0, 3, 4, 5, 6, 7, 8, 9, 10, 11] rfl)
              clear hF
              refine itr_rule (fun (s117 : Int32 × DD) => ∀ (H : Heap) (locs : List Loc) (ls : Array Slot), va_P D classes (wld ct ad G s117.2) H → va_D A (wld ct ad G s117.2) → va_S A s.heap H locs → lv_has ls 12 [(11, .int s117.1), (10, .int x115), (9, .int (0 : Int32)), (8, .int x2), (7, .int x1), (0, .ref (ad a)), (1, va_re ad p0), (2, .int p1), (3, .int p2), (4, .int p3), (5, va_re ad p4), (6, .int p5)] → W p l e (headSpec wuX6_predictLuma ({ frames := 1, cells := 0, slots := 0, locals := 32 })).room s m ([.ref (ad a), va_re ad p0, .int p1, .int p2, .int p3, va_re ad p4, .int p5] : List Value).toArray below meth c H locs 0 0 (MQ below (va_Qv (fun (_ : Unit) => True) (fun _ t => kE D ct ad G A y t) A) ([.ref (ad a), va_re ad p0, .int p1, .int p2, .int p3, va_re ad p4, .int p5] : List Value).toArray s 0 0 A) (F0 m 89 ls [])) ?_ _ _ hy116 _ _ _ hP hD hS (lv_sub hl [0, 1, 2, 3, 4, 5, 6, 7, 8, 9, 10, 11] rfl)
              rintro s117 ⟨z119, hF, hwz119⟩ H locs ls hP hD hS hl
              try dsimp only at hF
              refine lv_iload hx hb dX6_predictLuma_89 (lv_at hl 0 rfl) ?_
              refine lv_iload hx hb dX6_predictLuma_91 (lv_at hl 9 rfl) ?_
              refine lv_iload hx hb dX6_predictLuma_93 (lv_at hl 9 rfl) ?_
              refine lv_imul hx hb dX6_predictLuma_95 ?_
              obtain ⟨x120, ex120, hF⟩ := ltt_some hF
              refine lv_topi (fun zx120 ezx120 => ?_)
              obtain rfl : x120 = zx120 := ex120.trans ezx120.symm
              refine lv_icmp_ge (tgt := 147) hx hb dX6_predictLuma_96 (by decide) (fun c121 => ?_) (fun c121 => ?_)
              · rw [if_pos c121] at hF
                obtain rfl := Option.some.inj hF
                subst hwz119
                exact K116 _ _ _ hP hD hS (lv_sub hl [0, 1, 2, 3, 4, 5, 6, 7, 8, 9, 10, 11] rfl)
              · rw [if_neg c121] at hF
                refine lv_aloadq hx hb dX6_predictLuma_99 (lv_at hl 10 rfl) ?_
                refine lv_iload hx hb dX6_predictLuma_101 (lv_at hl 11 rfl) ?_
                refine lv_iload hx hb dX6_predictLuma_103 (lv_at hl 0 rfl) ?_
                refine lv_iload hx hb dX6_predictLuma_105 (lv_at hl 9 rfl) ?_
                obtain ⟨hne, hF⟩ := chk_some hF
                refine lv_idiv hx hb dX6_predictLuma_107 hne ?_
                obtain ⟨x122, ex122, hF⟩ := ltt_some hF
                refine lv_topi (fun zx122 ezx122 => ?_)
                obtain rfl : x122 = zx122 := ex122.trans ezx122.symm
                refine lv_bipush (v := (16 : Int32)) hx hb dX6_predictLuma_108 (by decide) ?_
                refine lv_imul hx hb dX6_predictLuma_110 ?_
                obtain ⟨x123, ex123, hF⟩ := ltt_some hF
                refine lv_topi (fun zx123 ezx123 => ?_)
                obtain rfl : x123 = zx123 := ex123.trans ezx123.symm
                refine lv_iadd hx hb dX6_predictLuma_111 ?_
                obtain ⟨x124, ex124, hF⟩ := ltt_some hF
                refine lv_topi (fun zx124 ezx124 => ?_)
                obtain rfl : x124 = zx124 := ex124.trans ezx124.symm
                refine lv_iload hx hb dX6_predictLuma_112 (lv_at hl 0 rfl) ?_
                refine lv_iload hx hb dX6_predictLuma_114 (lv_at hl 9 rfl) ?_
                obtain ⟨hne, hF⟩ := chk_some hF
                refine lv_irem hx hb dX6_predictLuma_116 hne ?_
                obtain ⟨x125, ex125, hF⟩ := ltt_some hF
                refine lv_topi (fun zx125 ezx125 => ?_)
                obtain rfl : x125 = zx125 := ex125.trans ezx125.symm
                refine lv_iadd hx hb dX6_predictLuma_117 ?_
                obtain ⟨x126, ex126, hF⟩ := ltt_some hF
                refine lv_topi (fun zx126 ezx126 => ?_)
                obtain rfl : x126 = zx126 := ex126.trans ezx126.symm
                refine lv_aload_n hx hb dX6_predictLuma_118 rfl (lv_at hl 5 rfl) ?_
                refine va_get (D := D) (ci := 6) (v := va_re ad (s117.2.2 a 3)) (C := RX6) (T := TX6) (N := 14) hx hb hts (mus hf_X6) hown hK hP a (wld_o ct ad G s117.2 hc hk (by decide)) rfl 3 (by decide) (hts (.fieldLink RX6 21 "VideoSuite$Samples" "window" "[I") (mu mw_538)) (fun _ h9 => h9) rfl dX6_predictLuma_119 ?_
                refine lv_iload hx hb dX6_predictLuma_122 (lv_at hl 1 rfl) ?_
                refine lv_iload hx hb dX6_predictLuma_124 (lv_at hl 0 rfl) ?_
                refine lv_iload hx hb dX6_predictLuma_126 (lv_at hl 9 rfl) ?_
                obtain ⟨hne, hF⟩ := chk_some hF
                refine lv_idiv hx hb dX6_predictLuma_128 hne ?_
                obtain ⟨x127, ex127, hF⟩ := ltt_some hF
                refine lv_topi (fun zx127 ezx127 => ?_)
                obtain rfl : x127 = zx127 := ex127.trans ezx127.symm
                refine lv_bipush (v := (21 : Int32)) hx hb dX6_predictLuma_129 (by decide) ?_
                refine lv_imul hx hb dX6_predictLuma_131 ?_
                obtain ⟨x128, ex128, hF⟩ := ltt_some hF
                refine lv_topi (fun zx128 ezx128 => ?_)
                obtain rfl : x128 = zx128 := ex128.trans ezx128.symm
                refine lv_iadd hx hb dX6_predictLuma_132 ?_
                obtain ⟨x129, ex129, hF⟩ := ltt_some hF
                refine lv_topi (fun zx129 ezx129 => ?_)
                obtain rfl : x129 = zx129 := ex129.trans ezx129.symm
                refine lv_iload hx hb dX6_predictLuma_133 (lv_at hl 0 rfl) ?_
                refine lv_iload hx hb dX6_predictLuma_135 (lv_at hl 9 rfl) ?_
                obtain ⟨hne, hF⟩ := chk_some hF
                refine lv_irem hx hb dX6_predictLuma_137 hne ?_
                obtain ⟨x130, ex130, hF⟩ := ltt_some hF
                refine lv_topi (fun zx130 ezx130 => ?_)
                obtain rfl : x130 = zx130 := ex130.trans ezx130.symm
                refine lv_iadd hx hb dX6_predictLuma_138 ?_
                obtain ⟨x131, ex131, hF⟩ := ltt_some hF
                refine lv_topi (fun zx131 ezx131 => ?_)
                obtain rfl : x131 = zx131 := ex131.trans ezx131.symm
                obtain ⟨b132, ho132, hc132, hk132, hF⟩ := dr_some hF
                refine W_st (st' := [.int x131, .ref (ad b132), .int x126, va_re ad p4]) (by rw [va_some ho132]) ?_
                obtain ⟨hvc, hF⟩ := chk_some hF
                refine va_iald hx hb hK hP b132 1 (wld_i ct ad G s117.2 hc132 hk132) rfl hvc dX6_predictLuma_139 ?_
                obtain ⟨x133, ex133, hF⟩ := ltt_some hF
                refine lv_topi (fun zx133 ezx133 => ?_)
                obtain rfl : x133 = zx133 := ex133.trans ezx133.symm
                obtain ⟨b134, ho134, hc134, hk134, hF⟩ := dr_some hF
                refine W_st (st' := [.int x133, .int x126, .ref (ad b134)]) (by rw [va_some ho134]) ?_
                obtain ⟨hvc, hF⟩ := chk_some hF
                refine va_iast hx hb hK hP hD hS b134 1 (wld_i ct ad G s117.2 hc134 hk134) rfl hvc dX6_predictLuma_140 (fun H locs hP hD hS => ?_)
                obtain ⟨M135, eM135, hF⟩ := ltt_some hF
                rw [set_i ct ad G s117.2 hc134 hk134, ← eM135] at hP hD
                obtain ⟨x136, ex136, hF⟩ := ltt_some hF
                refine lv_iinc (v := x136) (lv' := [(11, .int x136), (10, .int x115), (9, .int (0 : Int32)), (8, .int x2), (7, .int x1), (0, .ref (ad a)), (1, va_re ad p0), (2, .int p1), (3, .int p2), (4, .int p3), (5, va_re ad p4), (6, .int p5)]) hx hb dX6_predictLuma_141 hl (k := 0) rfl (by rw [ex136]; rfl) (by decide) rfl (fun ls hl => ?_)
                refine lv_goto (tgt := 89) hx hb dX6_predictLuma_144 (by decide) ?_
                obtain rfl := Option.some.inj hF
                exact hwz119 _ _ _ hP hD hS (lv_sub hl [0, 1, 2, 3, 4, 5, 6, 7, 8, 9, 10, 11] rfl)
            clear hF
            have hF := hy114
            clear hy114
            refine lv_icmp_ne (tgt := 82) hx hb dX6_predictLuma_75 (by decide) (fun c137 => ?_) (fun c137 => ?_)
            · rw [if_neg c137] at hF
              refine lv_iconst (v := (0 : Int32)) hx hb dX6_predictLuma_82 (by decide) ?_
              obtain rfl := Option.some.inj hF
              exact J114 _ _ _ hP hD hS (lv_sub hl [0, 1, 2, 3, 4, 5, 6, 7, 8, 9] rfl)
            · rw [if_pos c137] at hF
              refine lv_iconst (v := (1 : Int32)) hx hb dX6_predictLuma_78 (by decide) ?_
              refine lv_goto (tgt := 83) hx hb dX6_predictLuma_79 (by decide) ?_
              obtain rfl := Option.some.inj hF
              exact J114 _ _ _ hP hD hS (lv_sub hl [0, 1, 2, 3, 4, 5, 6, 7, 8, 9] rfl)
          clear hF
          have hF := hy110
          clear hy110
          refine lv_icmp_ne (tgt := 65) hx hb dX6_predictLuma_58 (by decide) (fun c138 => ?_) (fun c138 => ?_)
          · rw [if_neg c138] at hF
            refine lv_iconst (v := (0 : Int32)) hx hb dX6_predictLuma_65 (by decide) ?_
            obtain rfl := Option.some.inj hF
            exact J110 _ _ _ hP hD hS (lv_sub hl [0, 1, 2, 3, 4, 5, 6, 7, 8, 9] rfl)
          · rw [if_pos c138] at hF
            refine lv_iconst (v := (1 : Int32)) hx hb dX6_predictLuma_61 (by decide) ?_
            refine lv_goto (tgt := 66) hx hb dX6_predictLuma_62 (by decide) ?_
            obtain rfl := Option.some.inj hF
            exact J110 _ _ _ hP hD hS (lv_sub hl [0, 1, 2, 3, 4, 5, 6, 7, 8, 9] rfl)
set_option maxRecDepth 20000 in
theorem gX6_predictRegion_X9_pieceX : GoodIn wuX6_predictRegion (va_wsS RX6 76 yX9_pieceX wuX9_pieceX) := gu_S mw_2014 mw_949 mw_171 mw_950
set_option maxRecDepth 20000 in
set_option maxRecDepth 20000 in
theorem gX6_predictRegion_X9_pieceY : GoodIn wuX6_predictRegion (va_wsS RX6 80 yX9_pieceY wuX9_pieceY) := gu_S mw_2015 mw_952 mw_171 mw_953
set_option maxRecDepth 20000 in
set_option maxRecDepth 20000 in
theorem gX6_predictRegion_X6_chooseWeights : GoodIn wuX6_predictRegion (wsV RX6 98 RX6 yX6_chooseWeights wuX6_chooseWeights) := gu_V mw_2040 mw_2042 mw_75 mw_172 mw_2043
set_option maxRecDepth 20000 in
set_option maxRecDepth 20000 in
theorem gX6_predictRegion_X6_blend : GoodIn wuX6_predictRegion (wsV RX6 102 RX6 yX6_blend wuX6_blend) := gu_V mw_2047 mw_2049 mw_76 mw_172 mw_2050
set_option maxRecDepth 20000 in
theorem gX6_predictRegion_X6_predictLuma : GoodIn wuX6_predictRegion (wsV RX6 91 RX6 yX6_predictLuma wuX6_predictLuma) := gu_V mw_2016 mw_2018 mw_69 mw_172 mw_2019
set_option maxRecDepth 20000 in
set_option maxRecDepth 20000 in
theorem gX6_predictRegion_X6_predictColours : GoodIn wuX6_predictRegion (wsV RX6 95 RX6 yX6_predictColours wuX6_predictColours) := gu_V mw_2036 mw_2038 mw_74 mw_172 mw_2039
set_option maxRecDepth 20000 in
theorem dX6_predictRegion_0 : decode cX6_predictRegion 0 = .ok (.iload_n 3, 1) := by decide +kernel
theorem dX6_predictRegion_1 : decode cX6_predictRegion 1 = .ok (.invokestatic 76, 3) := by decide +kernel
theorem dX6_predictRegion_4 : decode cX6_predictRegion 4 = .ok (.istore 6, 2) := by decide +kernel
theorem dX6_predictRegion_6 : decode cX6_predictRegion 6 = .ok (.iload_n 3, 1) := by decide +kernel
theorem dX6_predictRegion_7 : decode cX6_predictRegion 7 = .ok (.invokestatic 80, 3) := by decide +kernel
theorem dX6_predictRegion_10 : decode cX6_predictRegion 10 = .ok (.istore 7, 2) := by decide +kernel
theorem dX6_predictRegion_12 : decode cX6_predictRegion 12 = .ok (.bipush 16, 2) := by decide +kernel
theorem dX6_predictRegion_14 : decode cX6_predictRegion 14 = .ok (.iload_n 2, 1) := by decide +kernel
theorem dX6_predictRegion_15 : decode cX6_predictRegion 15 = .ok (.aload_n 1, 1) := by decide +kernel
theorem dX6_predictRegion_16 : decode cX6_predictRegion 16 = .ok (.getfield 46, 3) := by decide +kernel
theorem dX6_predictRegion_19 : decode cX6_predictRegion 19 = .ok (.getfield 83, 3) := by decide +kernel
theorem dX6_predictRegion_22 : decode cX6_predictRegion 22 = .ok (.irem, 1) := by decide +kernel
theorem dX6_predictRegion_23 : decode cX6_predictRegion 23 = .ok (.imul, 1) := by decide +kernel
theorem dX6_predictRegion_24 : decode cX6_predictRegion 24 = .ok (.iload 6, 2) := by decide +kernel
theorem dX6_predictRegion_26 : decode cX6_predictRegion 26 = .ok (.iadd, 1) := by decide +kernel
theorem dX6_predictRegion_27 : decode cX6_predictRegion 27 = .ok (.istore 8, 2) := by decide +kernel
theorem dX6_predictRegion_29 : decode cX6_predictRegion 29 = .ok (.bipush 16, 2) := by decide +kernel
theorem dX6_predictRegion_31 : decode cX6_predictRegion 31 = .ok (.iload_n 2, 1) := by decide +kernel
theorem dX6_predictRegion_32 : decode cX6_predictRegion 32 = .ok (.aload_n 1, 1) := by decide +kernel
theorem dX6_predictRegion_33 : decode cX6_predictRegion 33 = .ok (.getfield 46, 3) := by decide +kernel
theorem dX6_predictRegion_36 : decode cX6_predictRegion 36 = .ok (.getfield 83, 3) := by decide +kernel
theorem dX6_predictRegion_39 : decode cX6_predictRegion 39 = .ok (.idiv, 1) := by decide +kernel
theorem dX6_predictRegion_40 : decode cX6_predictRegion 40 = .ok (.imul, 1) := by decide +kernel
theorem dX6_predictRegion_41 : decode cX6_predictRegion 41 = .ok (.iload 7, 2) := by decide +kernel
theorem dX6_predictRegion_43 : decode cX6_predictRegion 43 = .ok (.iadd, 1) := by decide +kernel
theorem dX6_predictRegion_44 : decode cX6_predictRegion 44 = .ok (.istore 9, 2) := by decide +kernel
theorem dX6_predictRegion_46 : decode cX6_predictRegion 46 = .ok (.bipush 16, 2) := by decide +kernel
theorem dX6_predictRegion_48 : decode cX6_predictRegion 48 = .ok (.iload 7, 2) := by decide +kernel
theorem dX6_predictRegion_50 : decode cX6_predictRegion 50 = .ok (.imul, 1) := by decide +kernel
theorem dX6_predictRegion_51 : decode cX6_predictRegion 51 = .ok (.iload 6, 2) := by decide +kernel
theorem dX6_predictRegion_53 : decode cX6_predictRegion 53 = .ok (.iadd, 1) := by decide +kernel
theorem dX6_predictRegion_54 : decode cX6_predictRegion 54 = .ok (.istore 10, 2) := by decide +kernel
theorem dX6_predictRegion_56 : decode cX6_predictRegion 56 = .ok (.sipush 256, 3) := by decide +kernel
theorem dX6_predictRegion_59 : decode cX6_predictRegion 59 = .ok (.iconst 4, 1) := by decide +kernel
theorem dX6_predictRegion_60 : decode cX6_predictRegion 60 = .ok (.iload 7, 2) := by decide +kernel
theorem dX6_predictRegion_62 : decode cX6_predictRegion 62 = .ok (.imul, 1) := by decide +kernel
theorem dX6_predictRegion_63 : decode cX6_predictRegion 63 = .ok (.iadd, 1) := by decide +kernel
theorem dX6_predictRegion_64 : decode cX6_predictRegion 64 = .ok (.iload 6, 2) := by decide +kernel
theorem dX6_predictRegion_66 : decode cX6_predictRegion 66 = .ok (.iconst 2, 1) := by decide +kernel
theorem dX6_predictRegion_67 : decode cX6_predictRegion 67 = .ok (.idiv, 1) := by decide +kernel
theorem dX6_predictRegion_68 : decode cX6_predictRegion 68 = .ok (.iadd, 1) := by decide +kernel
theorem dX6_predictRegion_69 : decode cX6_predictRegion 69 = .ok (.istore 11, 2) := by decide +kernel
theorem dX6_predictRegion_71 : decode cX6_predictRegion 71 = .ok (.iconst 0, 1) := by decide +kernel
theorem dX6_predictRegion_72 : decode cX6_predictRegion 72 = .ok (.istore 12, 2) := by decide +kernel
theorem dX6_predictRegion_74 : decode cX6_predictRegion 74 = .ok (.iload 12, 2) := by decide +kernel
theorem dX6_predictRegion_76 : decode cX6_predictRegion 76 = .ok (.iconst 2, 1) := by decide +kernel
theorem dX6_predictRegion_77 : decode cX6_predictRegion 77 = .ok (.if_icmp .ge 162, 3) := by decide +kernel
theorem dX6_predictRegion_80 : decode cX6_predictRegion 80 = .ok (.aload_n 0, 1) := by decide +kernel
theorem dX6_predictRegion_81 : decode cX6_predictRegion 81 = .ok (.getfield 27, 3) := by decide +kernel
theorem dX6_predictRegion_84 : decode cX6_predictRegion 84 = .ok (.iconst 3, 1) := by decide +kernel
theorem dX6_predictRegion_85 : decode cX6_predictRegion 85 = .ok (.iload 12, 2) := by decide +kernel
theorem dX6_predictRegion_87 : decode cX6_predictRegion 87 = .ok (.imul, 1) := by decide +kernel
theorem dX6_predictRegion_88 : decode cX6_predictRegion 88 = .ok (.iaload, 1) := by decide +kernel
theorem dX6_predictRegion_89 : decode cX6_predictRegion 89 = .ok (.istore 13, 2) := by decide +kernel
theorem dX6_predictRegion_91 : decode cX6_predictRegion 91 = .ok (.iload 13, 2) := by decide +kernel
theorem dX6_predictRegion_93 : decode cX6_predictRegion 93 = .ok (.ifCond .lt 10, 3) := by decide +kernel
theorem dX6_predictRegion_96 : decode cX6_predictRegion 96 = .ok (.iload 13, 2) := by decide +kernel
theorem dX6_predictRegion_98 : decode cX6_predictRegion 98 = .ok (.bipush 8, 2) := by decide +kernel
theorem dX6_predictRegion_100 : decode cX6_predictRegion 100 = .ok (.if_icmp .le 7, 3) := by decide +kernel
theorem dX6_predictRegion_103 : decode cX6_predictRegion 103 = .ok (.aconst_null, 1) := by decide +kernel
theorem dX6_predictRegion_104 : decode cX6_predictRegion 104 = .ok (.goto 16, 3) := by decide +kernel
theorem dX6_predictRegion_107 : decode cX6_predictRegion 107 = .ok (.aload_n 1, 1) := by decide +kernel
theorem dX6_predictRegion_108 : decode cX6_predictRegion 108 = .ok (.getfield 87, 3) := by decide +kernel
theorem dX6_predictRegion_111 : decode cX6_predictRegion 111 = .ok (.bipush 9, 2) := by decide +kernel
theorem dX6_predictRegion_113 : decode cX6_predictRegion 113 = .ok (.iload 12, 2) := by decide +kernel
theorem dX6_predictRegion_115 : decode cX6_predictRegion 115 = .ok (.imul, 1) := by decide +kernel
theorem dX6_predictRegion_116 : decode cX6_predictRegion 116 = .ok (.iload 13, 2) := by decide +kernel
theorem dX6_predictRegion_118 : decode cX6_predictRegion 118 = .ok (.iadd, 1) := by decide +kernel
theorem dX6_predictRegion_119 : decode cX6_predictRegion 119 = .ok (.aaload, 1) := by decide +kernel
theorem dX6_predictRegion_120 : decode cX6_predictRegion 120 = .ok (.astore 14, 2) := by decide +kernel
theorem dX6_predictRegion_122 : decode cX6_predictRegion 122 = .ok (.aload 14, 2) := by decide +kernel
theorem dX6_predictRegion_124 : decode cX6_predictRegion 124 = .ok (.ifnonnull 6, 3) := by decide +kernel
theorem dX6_predictRegion_127 : decode cX6_predictRegion 127 = .ok (.goto 106, 3) := by decide +kernel
theorem dX6_predictRegion_130 : decode cX6_predictRegion 130 = .ok (.iconst 4, 1) := by decide +kernel
theorem dX6_predictRegion_131 : decode cX6_predictRegion 131 = .ok (.iload 8, 2) := by decide +kernel
theorem dX6_predictRegion_133 : decode cX6_predictRegion 133 = .ok (.imul, 1) := by decide +kernel
theorem dX6_predictRegion_134 : decode cX6_predictRegion 134 = .ok (.aload_n 0, 1) := by decide +kernel
theorem dX6_predictRegion_135 : decode cX6_predictRegion 135 = .ok (.getfield 27, 3) := by decide +kernel
theorem dX6_predictRegion_138 : decode cX6_predictRegion 138 = .ok (.iconst 3, 1) := by decide +kernel
theorem dX6_predictRegion_139 : decode cX6_predictRegion 139 = .ok (.iload 12, 2) := by decide +kernel
theorem dX6_predictRegion_141 : decode cX6_predictRegion 141 = .ok (.imul, 1) := by decide +kernel
theorem dX6_predictRegion_142 : decode cX6_predictRegion 142 = .ok (.iconst 1, 1) := by decide +kernel
theorem dX6_predictRegion_143 : decode cX6_predictRegion 143 = .ok (.iadd, 1) := by decide +kernel
theorem dX6_predictRegion_144 : decode cX6_predictRegion 144 = .ok (.iaload, 1) := by decide +kernel
theorem dX6_predictRegion_145 : decode cX6_predictRegion 145 = .ok (.iadd, 1) := by decide +kernel
theorem dX6_predictRegion_146 : decode cX6_predictRegion 146 = .ok (.istore 15, 2) := by decide +kernel
theorem dX6_predictRegion_148 : decode cX6_predictRegion 148 = .ok (.iconst 4, 1) := by decide +kernel
theorem dX6_predictRegion_149 : decode cX6_predictRegion 149 = .ok (.iload 9, 2) := by decide +kernel
theorem dX6_predictRegion_151 : decode cX6_predictRegion 151 = .ok (.imul, 1) := by decide +kernel
theorem dX6_predictRegion_152 : decode cX6_predictRegion 152 = .ok (.aload_n 0, 1) := by decide +kernel
theorem dX6_predictRegion_153 : decode cX6_predictRegion 153 = .ok (.getfield 27, 3) := by decide +kernel
theorem dX6_predictRegion_156 : decode cX6_predictRegion 156 = .ok (.iconst 3, 1) := by decide +kernel
theorem dX6_predictRegion_157 : decode cX6_predictRegion 157 = .ok (.iload 12, 2) := by decide +kernel
theorem dX6_predictRegion_159 : decode cX6_predictRegion 159 = .ok (.imul, 1) := by decide +kernel
theorem dX6_predictRegion_160 : decode cX6_predictRegion 160 = .ok (.iconst 2, 1) := by decide +kernel
theorem dX6_predictRegion_161 : decode cX6_predictRegion 161 = .ok (.iadd, 1) := by decide +kernel
theorem dX6_predictRegion_162 : decode cX6_predictRegion 162 = .ok (.iaload, 1) := by decide +kernel
theorem dX6_predictRegion_163 : decode cX6_predictRegion 163 = .ok (.iadd, 1) := by decide +kernel
theorem dX6_predictRegion_164 : decode cX6_predictRegion 164 = .ok (.istore 16, 2) := by decide +kernel
theorem dX6_predictRegion_166 : decode cX6_predictRegion 166 = .ok (.aload_n 0, 1) := by decide +kernel
theorem dX6_predictRegion_167 : decode cX6_predictRegion 167 = .ok (.aload 14, 2) := by decide +kernel
theorem dX6_predictRegion_169 : decode cX6_predictRegion 169 = .ok (.iload 15, 2) := by decide +kernel
theorem dX6_predictRegion_171 : decode cX6_predictRegion 171 = .ok (.iload 16, 2) := by decide +kernel
theorem dX6_predictRegion_173 : decode cX6_predictRegion 173 = .ok (.iload 4, 2) := by decide +kernel
theorem dX6_predictRegion_175 : decode cX6_predictRegion 175 = .ok (.iload 12, 2) := by decide +kernel
theorem dX6_predictRegion_177 : decode cX6_predictRegion 177 = .ok (.ifCond .ne 10, 3) := by decide +kernel
theorem dX6_predictRegion_180 : decode cX6_predictRegion 180 = .ok (.aload_n 0, 1) := by decide +kernel
theorem dX6_predictRegion_181 : decode cX6_predictRegion 181 = .ok (.getfield 15, 3) := by decide +kernel
theorem dX6_predictRegion_184 : decode cX6_predictRegion 184 = .ok (.goto 7, 3) := by decide +kernel
theorem dX6_predictRegion_187 : decode cX6_predictRegion 187 = .ok (.aload_n 0, 1) := by decide +kernel
theorem dX6_predictRegion_188 : decode cX6_predictRegion 188 = .ok (.getfield 18, 3) := by decide +kernel
theorem dX6_predictRegion_191 : decode cX6_predictRegion 191 = .ok (.iload 10, 2) := by decide +kernel
theorem dX6_predictRegion_193 : decode cX6_predictRegion 193 = .ok (.invokevirtual 91, 3) := by decide +kernel
theorem dX6_predictRegion_196 : decode cX6_predictRegion 196 = .ok (.iload 5, 2) := by decide +kernel
theorem dX6_predictRegion_198 : decode cX6_predictRegion 198 = .ok (.ifCond .eq 35, 3) := by decide +kernel
theorem dX6_predictRegion_201 : decode cX6_predictRegion 201 = .ok (.aload_n 0, 1) := by decide +kernel
theorem dX6_predictRegion_202 : decode cX6_predictRegion 202 = .ok (.aload 14, 2) := by decide +kernel
theorem dX6_predictRegion_204 : decode cX6_predictRegion 204 = .ok (.iload 15, 2) := by decide +kernel
theorem dX6_predictRegion_206 : decode cX6_predictRegion 206 = .ok (.iload 16, 2) := by decide +kernel
theorem dX6_predictRegion_208 : decode cX6_predictRegion 208 = .ok (.iload 4, 2) := by decide +kernel
theorem dX6_predictRegion_210 : decode cX6_predictRegion 210 = .ok (.iconst 2, 1) := by decide +kernel
theorem dX6_predictRegion_211 : decode cX6_predictRegion 211 = .ok (.idiv, 1) := by decide +kernel
theorem dX6_predictRegion_212 : decode cX6_predictRegion 212 = .ok (.iload 12, 2) := by decide +kernel
theorem dX6_predictRegion_214 : decode cX6_predictRegion 214 = .ok (.ifCond .ne 10, 3) := by decide +kernel
theorem dX6_predictRegion_217 : decode cX6_predictRegion 217 = .ok (.aload_n 0, 1) := by decide +kernel
theorem dX6_predictRegion_218 : decode cX6_predictRegion 218 = .ok (.getfield 15, 3) := by decide +kernel
theorem dX6_predictRegion_221 : decode cX6_predictRegion 221 = .ok (.goto 7, 3) := by decide +kernel
theorem dX6_predictRegion_224 : decode cX6_predictRegion 224 = .ok (.aload_n 0, 1) := by decide +kernel
theorem dX6_predictRegion_225 : decode cX6_predictRegion 225 = .ok (.getfield 18, 3) := by decide +kernel
theorem dX6_predictRegion_228 : decode cX6_predictRegion 228 = .ok (.iload 11, 2) := by decide +kernel
theorem dX6_predictRegion_230 : decode cX6_predictRegion 230 = .ok (.invokevirtual 95, 3) := by decide +kernel
theorem dX6_predictRegion_233 : decode cX6_predictRegion 233 = .ok (.iinc 12 1, 3) := by decide +kernel
theorem dX6_predictRegion_236 : decode cX6_predictRegion 236 = .ok (.goto (-162), 3) := by decide +kernel
theorem dX6_predictRegion_239 : decode cX6_predictRegion 239 = .ok (.iconst 0, 1) := by decide +kernel
theorem dX6_predictRegion_240 : decode cX6_predictRegion 240 = .ok (.istore 12, 2) := by decide +kernel
theorem dX6_predictRegion_242 : decode cX6_predictRegion 242 = .ok (.iload 12, 2) := by decide +kernel
theorem dX6_predictRegion_244 : decode cX6_predictRegion 244 = .ok (.iload 5, 2) := by decide +kernel
theorem dX6_predictRegion_246 : decode cX6_predictRegion 246 = .ok (.ifCond .eq 7, 3) := by decide +kernel
theorem dX6_predictRegion_249 : decode cX6_predictRegion 249 = .ok (.iconst 3, 1) := by decide +kernel
theorem dX6_predictRegion_250 : decode cX6_predictRegion 250 = .ok (.goto 4, 3) := by decide +kernel
theorem dX6_predictRegion_253 : decode cX6_predictRegion 253 = .ok (.iconst 1, 1) := by decide +kernel
theorem dX6_predictRegion_254 : decode cX6_predictRegion 254 = .ok (.if_icmp .ge 60, 3) := by decide +kernel
theorem dX6_predictRegion_257 : decode cX6_predictRegion 257 = .ok (.aload_n 0, 1) := by decide +kernel
theorem dX6_predictRegion_258 : decode cX6_predictRegion 258 = .ok (.aload_n 1, 1) := by decide +kernel
theorem dX6_predictRegion_259 : decode cX6_predictRegion 259 = .ok (.iload 12, 2) := by decide +kernel
theorem dX6_predictRegion_261 : decode cX6_predictRegion 261 = .ok (.invokevirtual 98, 3) := by decide +kernel
theorem dX6_predictRegion_264 : decode cX6_predictRegion 264 = .ok (.istore 13, 2) := by decide +kernel
theorem dX6_predictRegion_266 : decode cX6_predictRegion 266 = .ok (.iload 12, 2) := by decide +kernel
theorem dX6_predictRegion_268 : decode cX6_predictRegion 268 = .ok (.ifCond .ne 18, 3) := by decide +kernel
theorem dX6_predictRegion_271 : decode cX6_predictRegion 271 = .ok (.aload_n 0, 1) := by decide +kernel
theorem dX6_predictRegion_272 : decode cX6_predictRegion 272 = .ok (.iload 13, 2) := by decide +kernel
theorem dX6_predictRegion_274 : decode cX6_predictRegion 274 = .ok (.iload 10, 2) := by decide +kernel
theorem dX6_predictRegion_276 : decode cX6_predictRegion 276 = .ok (.bipush 16, 2) := by decide +kernel
theorem dX6_predictRegion_278 : decode cX6_predictRegion 278 = .ok (.iload 4, 2) := by decide +kernel
theorem dX6_predictRegion_280 : decode cX6_predictRegion 280 = .ok (.invokevirtual 102, 3) := by decide +kernel
theorem dX6_predictRegion_283 : decode cX6_predictRegion 283 = .ok (.goto 25, 3) := by decide +kernel
theorem dX6_predictRegion_286 : decode cX6_predictRegion 286 = .ok (.aload_n 0, 1) := by decide +kernel
theorem dX6_predictRegion_287 : decode cX6_predictRegion 287 = .ok (.iload 13, 2) := by decide +kernel
theorem dX6_predictRegion_289 : decode cX6_predictRegion 289 = .ok (.iload 11, 2) := by decide +kernel
theorem dX6_predictRegion_291 : decode cX6_predictRegion 291 = .ok (.bipush 64, 2) := by decide +kernel
theorem dX6_predictRegion_293 : decode cX6_predictRegion 293 = .ok (.iload 12, 2) := by decide +kernel
theorem dX6_predictRegion_295 : decode cX6_predictRegion 295 = .ok (.iconst 1, 1) := by decide +kernel
theorem dX6_predictRegion_296 : decode cX6_predictRegion 296 = .ok (.isub, 1) := by decide +kernel
theorem dX6_predictRegion_297 : decode cX6_predictRegion 297 = .ok (.imul, 1) := by decide +kernel
theorem dX6_predictRegion_298 : decode cX6_predictRegion 298 = .ok (.iadd, 1) := by decide +kernel
theorem dX6_predictRegion_299 : decode cX6_predictRegion 299 = .ok (.bipush 8, 2) := by decide +kernel
theorem dX6_predictRegion_301 : decode cX6_predictRegion 301 = .ok (.iload 4, 2) := by decide +kernel
theorem dX6_predictRegion_303 : decode cX6_predictRegion 303 = .ok (.iconst 2, 1) := by decide +kernel
theorem dX6_predictRegion_304 : decode cX6_predictRegion 304 = .ok (.idiv, 1) := by decide +kernel
theorem dX6_predictRegion_305 : decode cX6_predictRegion 305 = .ok (.invokevirtual 102, 3) := by decide +kernel
theorem dX6_predictRegion_308 : decode cX6_predictRegion 308 = .ok (.iinc 12 1, 3) := by decide +kernel
theorem dX6_predictRegion_311 : decode cX6_predictRegion 311 = .ok (.goto (-69), 3) := by decide +kernel
theorem dX6_predictRegion_314 : decode cX6_predictRegion 314 = .ok (.return_, 1) := by decide +kernel
def FX6_predictRegion (G : GG) (M : DD) (a : Nat) (p0 : Option Nat) (p1 : Int32) (p2 : Int32) (p3 : Int32) (p4 : Int32) : Option (DD) :=
  bnd (FX9_pieceX G M p2) fun y1 =>
  bnd (FX9_pieceY G y1.1 p2) fun y2 =>
  dr G 9 p0 fun b3 =>
  dr G 4 ((y2.1.2 b3 0)) fun b4 =>
  ltt (y2.1.1 b4 1) fun x5 =>
  chk (¬ x5 = 0) <|
  ltt (p1 - p1 / x5 * x5) fun x6 =>
  ltt ((((16 : Int32)) * x6)) fun x7 =>
  ltt ((x7 + y1.2)) fun x8 =>
  ltt (y2.1.1 b4 1) fun x9 =>
  chk (¬ x9 = 0) <|
  ltt (p1 / x9) fun x10 =>
  ltt ((((16 : Int32)) * x10)) fun x11 =>
  ltt ((x11 + y2.2)) fun x12 =>
  ltt ((((16 : Int32)) * y2.2)) fun x13 =>
  ltt ((x13 + y1.2)) fun x14 =>
  ltt ((((4 : Int32)) * y2.2)) fun x15 =>
  ltt ((((256 : Int32)) + x15)) fun x16 =>
  ltt (y1.2 / ((2 : Int32))) fun x17 =>
  ltt ((x16 + x17)) fun x18 =>
  bnd (itr (fun (s20 : Int32 × DD) => ((if ((2 : Int32)) ≤ s20.1 then (some (.inr (s20.1, s20.2))) else
  (ltt ((((3 : Int32)) * s20.1)) fun x41 =>
  dr G 13 ((s20.2.2 a 5)) fun b42 =>
  chk (¬ (x41 < 0 ∨ G.2.2 b42 ≤ x41.toNatClampNeg)) <|
  ltt (s20.2.1 b42 x41.toNatClampNeg) fun x43 =>
  bnd (if x43 < ((0 : Int32)) then (some (none)) else
  (bnd (if x43 ≤ ((8 : Int32)) then (ltt ((((9 : Int32)) * s20.1)) fun x70 =>
  ltt ((x70 + x43)) fun x71 =>
  dr G 14 ((s20.2.2 b3 3)) fun b72 =>
  chk (¬ (x71 < 0 ∨ G.2.2 b72 ≤ x71.toNatClampNeg)) <|
  some ((s20.2.2 b72 x71.toNatClampNeg))) else
  (some (none))) fun (y68 : Option Nat) =>
  some (y68))) fun (y44 : Option Nat) =>
  bnd (if y44 = none then (some (s20.2)) else
  (ltt ((((4 : Int32)) * x8)) fun x48 =>
  ltt ((((3 : Int32)) * s20.1)) fun x49 =>
  ltt ((x49 + ((1 : Int32)))) fun x50 =>
  chk (¬ (x50 < 0 ∨ G.2.2 b42 ≤ x50.toNatClampNeg)) <|
  ltt (s20.2.1 b42 x50.toNatClampNeg) fun x51 =>
  ltt ((x48 + x51)) fun x52 =>
  ltt ((((4 : Int32)) * x12)) fun x53 =>
  ltt ((((3 : Int32)) * s20.1)) fun x54 =>
  ltt ((x54 + ((2 : Int32)))) fun x55 =>
  chk (¬ (x55 < 0 ∨ G.2.2 b42 ≤ x55.toNatClampNeg)) <|
  ltt (s20.2.1 b42 x55.toNatClampNeg) fun x56 =>
  ltt ((x53 + x56)) fun x57 =>
  bnd (if s20.1 = ((0 : Int32)) then (some ((s20.2.2 a 1))) else
  (some ((s20.2.2 a 2)))) fun (y58 : Option Nat) =>
  bnd (FX6_predictLuma G s20.2 a y44 x52 x57 p3 y58 x14) fun y59 =>
  bnd (if p4 = ((0 : Int32)) then (some (y59)) else
  (ltt (p3 / ((2 : Int32))) fun x62 =>
  bnd (if s20.1 = ((0 : Int32)) then (some ((y59.2 a 1))) else
  (some ((y59.2 a 2)))) fun (y63 : Option Nat) =>
  bnd (FX6_predictColours G y59 a y44 x52 x57 x62 y63 x18) fun y64 =>
  some (y64))) fun (y60 : DD) =>
  some (y60))) fun (y45 : DD) =>
  ltt (s20.1 + (1 : Int32)) fun x46 =>
  some (.inl (x46, y45)))) : Option ((Int32 × DD) ⊕ (Int32 × DD)))) 1000000 ((0 : Int32), y2.1)) fun (y19 : Int32 × DD) =>
  bnd (itr (fun (s23 : Int32 × DD) => ((bnd (if p4 = ((0 : Int32)) then (some ((1 : Int32))) else
  (some ((3 : Int32)))) fun (y26 : Int32) =>
  if y26 ≤ s23.1 then (some (.inr (s23.1, s23.2))) else
  (bnd (FX6_chooseWeights G s23.2 a p0 s23.1) fun y28 =>
  bnd (if s23.1 = ((0 : Int32)) then (bnd (FX6_blend G y28.1 a y28.2 x14 ((16 : Int32)) p3) fun y37 =>
  some (y37)) else
  (ltt ((s23.1 - ((1 : Int32)))) fun x32 =>
  ltt ((((64 : Int32)) * x32)) fun x33 =>
  ltt ((x18 + x33)) fun x34 =>
  ltt (p3 / ((2 : Int32))) fun x35 =>
  bnd (FX6_blend G y28.1 a y28.2 x34 ((8 : Int32)) x35) fun y36 =>
  some (y36))) fun (y29 : DD) =>
  ltt (s23.1 + (1 : Int32)) fun x30 =>
  some (.inl (x30, y29)))) : Option ((Int32 × DD) ⊕ (Int32 × DD)))) 1000000 ((0 : Int32), y19.2)) fun (y22 : Int32 × DD) =>
  some y22.2
set_option maxHeartbeats 4000000 in
set_option maxRecDepth 100000 in
theorem kX6_predictRegion (l : Launch) (D : va_G) (ct : CT) (ad : Nat → Nat) (Z : Nat → Nat) (G : GG) (M : DD) (sz : Nat) (a : Nat) (p0 : Option Nat) (p1 : Int32) (p2 : Int32) (p3 : Int32) (p4 : Int32) (y : DD) (hc : a < G.1) (hk : G.2.1 a = 6) (hF : FX6_predictRegion G M a p0 p1 p2 p3 p4 = some y) : Met l yX6_predictRegion wuX6_predictRegion ({ frames := 3, cells := 0, slots := 0, locals := 77 }) (va_Pc [.ref (ad a), va_re ad p0, .int p1, .int p2, .int p3, .int p4] (kB D ct ad Z G M sz)) (va_Qv (fun (_ : Unit) => True) (fun _ t => kE D ct ad G (wA ad G sz) y t) (wA ad G sz)) 0 0 (wA ad G sz) := by
  refine Met.ofW (cc := cX6_predictRegion) (maxL := 17) (ret := none) (by decide) rfl ?_
  intro p e s m args below meth c s₁ B hml hv
  obtain ⟨rfl, hsz, hP, hK, hD0, hZ, hN⟩ := hv
  have hx := B.exec
  have hb := B.bytes
  have hr := B.returns
  have hts := atoms_spec (ws := wuX6_predictRegion) B.pre
  have hown : s.vm.findClass RX6 = some m.cls := findClass_of_methodNamed B.named
  have hlocks := B.notSynchronized
  subst hsz
  have hD := wD_self (sz := s.heap.size) hD0
  have hA9 : ∀ q, s.heap.size ≤ q → wA ad G s.heap.size q := fun q h => Or.inr h
  generalize hAe : wA ad G s.heap.size = A at hD hA9 hZ ⊢
  have hS : va_S A s.heap s.heap [] := va_S.rf
  have hl := lv_entry ([.ref (ad a), va_re ad p0, .int p1, .int p2, .int p3, .int p4]) (n := 17) (by cases p0 <;> exact Nat.le_of_ble_eq_true rfl)
  rw [lg_entry_eq]
  generalize (lg_sl ([.ref (ad a), va_re ad p0, .int p1, .int p2, .int p3, .int p4]) ++ List.replicate (17 - (lg_sl ([.ref (ad a), va_re ad p0, .int p1, .int p2, .int p3, .int p4])).length) Slot.unset).toArray = ls at hl ⊢
  have hl : lv_has ls 17 [(0, .ref (ad a)), (1, va_re ad p0), (2, .int p1), (3, .int p2), (4, .int p3), (5, .int p4)] := by have e9 : lv_args 0 [.ref (ad a), va_re ad p0, .int p1, .int p2, .int p3, .int p4] = [(0, .ref (ad a)), (1, va_re ad p0), (2, .int p1), (3, .int p2), (4, .int p3), (5, .int p4)] := (by cases p0 <;> rfl); rw [e9] at hl; exact hl
  unfold FX6_predictRegion at hF
  refine lv_iload_n hx hb dX6_predictRegion_0 rfl (lv_at hl 3 rfl) ?_
  obtain ⟨y1, hy1, hF⟩ := bnd_some hF
  have hf9 := wA_in hD hA9 hS
  refine va_calli (va_runS (As := [.int p2]) (rest := []) ⟨hx, hb, hml, hown, hts⟩ (kX9_pieceX l D ct ad Z G M s.heap.size p2 y1 hy1) (va_cwS 1 hts gX6_predictRegion_X9_pieceX rfl rfl rfl (by decide +kernel) ⟨Nat.le_of_ble_eq_true rfl, Nat.le_of_ble_eq_true rfl⟩) ⟨fun a U g mk q => by obtain ⟨q0, q1, qP, qK, qD, qZ, qN⟩ := q; exact ⟨q0, q1, qP, va_K.moved (u := U) (U := U.calling g mk a) (Vm.Alike.refl U.vm) qK, qD, sF.moved (u := U) (U := U.calling g mk a) (Vm.Alike.refl U.vm) qZ, nF.same rfl qN⟩, fun U hU hW => ⟨rfl, by rw [hU], by rw [hU]; exact hP, va_K.moved hW.alike hK, hD.weaken (fun _ _ _ _ => trivial), by rw [hU]; exact ((hZ.kept hS.2.1).narrow hf9).moved hW.alike, hN.warm hW⟩⟩ rfl rfl hl.1 rfl (lv_room (Nat.le_of_ble_eq_true rfl)) dX6_predictRegion_1 ⟨(Nat.zero_le _), (Nat.zero_le _)⟩) hS (fun q _ h => hf9 q h) hf9 (fun r u t H locs ht hvm hw hB hz1 hk1 hS => ?_)
  obtain ⟨hP, hK9, hD9⟩ := hB
  rw [ht] at hP
  try dsimp only at hw
  subst hw
  have hD := hD9.weaken (fun _ q _ h => hf9 q.1 h)
  refine lv_istore (lv' := [(6, .int y1.2), (0, .ref (ad a)), (1, va_re ad p0), (2, .int p1), (3, .int p2), (4, .int p3), (5, .int p4)]) hx hb dX6_predictRegion_4 hl (by decide) rfl (fun ls hl => ?_)
  refine lv_iload_n hx hb dX6_predictRegion_6 rfl (lv_at hl 4 rfl) ?_
  obtain ⟨y2, hy2, hF⟩ := bnd_some hF
  have hf9 := wA_in hD hA9 hS
  refine va_calli (va_runS (As := [.int p2]) (rest := []) ⟨hx, hb, hml, hown, hts⟩ (kX9_pieceY l D ct ad Z G y1.1 H.size p2 y2 hy2) (va_cwS 1 hts gX6_predictRegion_X9_pieceY rfl rfl rfl (by decide +kernel) ⟨Nat.le_of_ble_eq_true rfl, Nat.le_of_ble_eq_true rfl⟩) ⟨fun a U g mk q => by obtain ⟨q0, q1, qP, qK, qD, qZ, qN⟩ := q; exact ⟨q0, q1, qP, va_K.moved (u := U) (U := U.calling g mk a) (Vm.Alike.refl U.vm) qK, qD, sF.moved (u := U) (U := U.calling g mk a) (Vm.Alike.refl U.vm) qZ, nF.same rfl qN⟩, fun U hU hW => ⟨rfl, by rw [hU], by rw [hU]; exact hP, va_K.moved hW.alike hK, hD.weaken (fun _ _ _ _ => trivial), by rw [hU]; exact ((hZ.kept hS.2.1).narrow hf9).moved hW.alike, hN.warm hW⟩⟩ rfl rfl hl.1 rfl (lv_room (Nat.le_of_ble_eq_true rfl)) dX6_predictRegion_7 ⟨(Nat.zero_le _), (Nat.zero_le _)⟩) hS (fun q _ h => hf9 q h) hf9 (fun r u t H locs ht hvm hw hB hz1 hk1 hS => ?_)
  obtain ⟨hP, hK9, hD9⟩ := hB
  rw [ht] at hP
  try dsimp only at hw
  subst hw
  have hD := hD9.weaken (fun _ q _ h => hf9 q.1 h)
  refine lv_istore (lv' := [(7, .int y2.2), (6, .int y1.2), (0, .ref (ad a)), (1, va_re ad p0), (2, .int p1), (3, .int p2), (4, .int p3), (5, .int p4)]) hx hb dX6_predictRegion_10 hl (by decide) rfl (fun ls hl => ?_)
  refine lv_bipush (v := (16 : Int32)) hx hb dX6_predictRegion_12 (by decide) ?_
  refine lv_iload_n hx hb dX6_predictRegion_14 rfl (lv_at hl 4 rfl) ?_
  refine lv_aloadq_n hx hb dX6_predictRegion_15 rfl (lv_at hl 3 rfl) ?_
  obtain ⟨b3, ho3, hc3, hk3, hF⟩ := dr_some hF
  refine W_st (st' := [.ref (ad b3), .int p1, .int (16 : Int32)]) (by rw [va_some ho3]) ?_
  refine va_get (D := D) (ci := 9) (v := va_re ad (y2.1.2 b3 0)) (C := RX9) (T := TX9) (N := 20) hx hb hts (mus hf_X9) hown hK hP b3 (wld_o ct ad G y2.1 hc3 hk3 (by decide)) rfl 0 (by decide) (hts (.fieldLink RX6 46 "VideoSuite$Work" "pic" "LVideoSuite$Picture;") (mu mw_421)) (fun _ h9 => h9) rfl dX6_predictRegion_16 ?_
  obtain ⟨b4, ho4, hc4, hk4, hF⟩ := dr_some hF
  refine W_st (st' := [.ref (ad b4), .int p1, .int (16 : Int32)]) (by rw [va_some ho4]) ?_
  refine va_get (D := D) (ci := 4) (v := .int (y2.1.1 b4 1)) (C := RX4) (T := TX4) (N := 18) hx hb hts (mus hf_X4) hown hK hP b4 (wld_o ct ad G y2.1 hc4 hk4 (by decide)) rfl 1 (by decide) (hts (.fieldLink RX6 83 "VideoSuite$Picture" "width" "I") (mu mw_1422)) (fun _ h9 => h9) rfl dX6_predictRegion_19 ?_
  obtain ⟨x5, ex5, hF⟩ := ltt_some hF
  refine lv_topi (fun zx5 ezx5 => ?_)
  obtain rfl : x5 = zx5 := ex5.trans ezx5.symm
  obtain ⟨hne, hF⟩ := chk_some hF
  refine lv_irem hx hb dX6_predictRegion_22 hne ?_
  obtain ⟨x6, ex6, hF⟩ := ltt_some hF
  refine lv_topi (fun zx6 ezx6 => ?_)
  obtain rfl : x6 = zx6 := ex6.trans ezx6.symm
  refine lv_imul hx hb dX6_predictRegion_23 ?_
  obtain ⟨x7, ex7, hF⟩ := ltt_some hF
  refine lv_topi (fun zx7 ezx7 => ?_)
  obtain rfl : x7 = zx7 := ex7.trans ezx7.symm
  refine lv_iload hx hb dX6_predictRegion_24 (lv_at hl 1 rfl) ?_
  refine lv_iadd hx hb dX6_predictRegion_26 ?_
  obtain ⟨x8, ex8, hF⟩ := ltt_some hF
  refine lv_topi (fun zx8 ezx8 => ?_)
  obtain rfl : x8 = zx8 := ex8.trans ezx8.symm
  refine lv_istore (lv' := [(8, .int x8), (7, .int y2.2), (6, .int y1.2), (0, .ref (ad a)), (1, va_re ad p0), (2, .int p1), (3, .int p2), (4, .int p3), (5, .int p4)]) hx hb dX6_predictRegion_27 hl (by decide) rfl (fun ls hl => ?_)
  refine lv_bipush (v := (16 : Int32)) hx hb dX6_predictRegion_29 (by decide) ?_
  refine lv_iload_n hx hb dX6_predictRegion_31 rfl (lv_at hl 5 rfl) ?_
  refine lv_aloadq_n hx hb dX6_predictRegion_32 rfl (lv_at hl 4 rfl) ?_
  refine W_st (st' := [.ref (ad b3), .int p1, .int (16 : Int32)]) (by rw [va_some ho3]) ?_
  refine va_get (D := D) (ci := 9) (v := va_re ad (y2.1.2 b3 0)) (C := RX9) (T := TX9) (N := 20) hx hb hts (mus hf_X9) hown hK hP b3 (wld_o ct ad G y2.1 hc3 hk3 (by decide)) rfl 0 (by decide) (hts (.fieldLink RX6 46 "VideoSuite$Work" "pic" "LVideoSuite$Picture;") (mu mw_421)) (fun _ h9 => h9) rfl dX6_predictRegion_33 ?_
  refine W_st (st' := [.ref (ad b4), .int p1, .int (16 : Int32)]) (by rw [va_some ho4]) ?_
  refine va_get (D := D) (ci := 4) (v := .int (y2.1.1 b4 1)) (C := RX4) (T := TX4) (N := 18) hx hb hts (mus hf_X4) hown hK hP b4 (wld_o ct ad G y2.1 hc4 hk4 (by decide)) rfl 1 (by decide) (hts (.fieldLink RX6 83 "VideoSuite$Picture" "width" "I") (mu mw_1422)) (fun _ h9 => h9) rfl dX6_predictRegion_36 ?_
  obtain ⟨x9, ex9, hF⟩ := ltt_some hF
  refine lv_topi (fun zx9 ezx9 => ?_)
  obtain rfl : x9 = zx9 := ex9.trans ezx9.symm
  obtain ⟨hne, hF⟩ := chk_some hF
  refine lv_idiv hx hb dX6_predictRegion_39 hne ?_
  obtain ⟨x10, ex10, hF⟩ := ltt_some hF
  refine lv_topi (fun zx10 ezx10 => ?_)
  obtain rfl : x10 = zx10 := ex10.trans ezx10.symm
  refine lv_imul hx hb dX6_predictRegion_40 ?_
  obtain ⟨x11, ex11, hF⟩ := ltt_some hF
  refine lv_topi (fun zx11 ezx11 => ?_)
  obtain rfl : x11 = zx11 := ex11.trans ezx11.symm
  refine lv_iload hx hb dX6_predictRegion_41 (lv_at hl 1 rfl) ?_
  refine lv_iadd hx hb dX6_predictRegion_43 ?_
  obtain ⟨x12, ex12, hF⟩ := ltt_some hF
  refine lv_topi (fun zx12 ezx12 => ?_)
  obtain rfl : x12 = zx12 := ex12.trans ezx12.symm
  refine lv_istore (lv' := [(9, .int x12), (8, .int x8), (7, .int y2.2), (6, .int y1.2), (0, .ref (ad a)), (1, va_re ad p0), (2, .int p1), (3, .int p2), (4, .int p3), (5, .int p4)]) hx hb dX6_predictRegion_44 hl (by decide) rfl (fun ls hl => ?_)
  refine lv_bipush (v := (16 : Int32)) hx hb dX6_predictRegion_46 (by decide) ?_
  refine lv_iload hx hb dX6_predictRegion_48 (lv_at hl 2 rfl) ?_
  refine lv_imul hx hb dX6_predictRegion_50 ?_
  obtain ⟨x13, ex13, hF⟩ := ltt_some hF
  refine lv_topi (fun zx13 ezx13 => ?_)
  obtain rfl : x13 = zx13 := ex13.trans ezx13.symm
  refine lv_iload hx hb dX6_predictRegion_51 (lv_at hl 3 rfl) ?_
  refine lv_iadd hx hb dX6_predictRegion_53 ?_
  obtain ⟨x14, ex14, hF⟩ := ltt_some hF
  refine lv_topi (fun zx14 ezx14 => ?_)
  obtain rfl : x14 = zx14 := ex14.trans ezx14.symm
  refine lv_istore (lv' := [(10, .int x14), (9, .int x12), (8, .int x8), (7, .int y2.2), (6, .int y1.2), (0, .ref (ad a)), (1, va_re ad p0), (2, .int p1), (3, .int p2), (4, .int p3), (5, .int p4)]) hx hb dX6_predictRegion_54 hl (by decide) rfl (fun ls hl => ?_)
  refine lv_sipush (v := (256 : Int32)) hx hb dX6_predictRegion_56 (by decide) ?_
  refine lv_iconst (v := (4 : Int32)) hx hb dX6_predictRegion_59 (by decide) ?_
  refine lv_iload hx hb dX6_predictRegion_60 (lv_at hl 3 rfl) ?_
  refine lv_imul hx hb dX6_predictRegion_62 ?_
  obtain ⟨x15, ex15, hF⟩ := ltt_some hF
  refine lv_topi (fun zx15 ezx15 => ?_)
  obtain rfl : x15 = zx15 := ex15.trans ezx15.symm
  refine lv_iadd hx hb dX6_predictRegion_63 ?_
  obtain ⟨x16, ex16, hF⟩ := ltt_some hF
  refine lv_topi (fun zx16 ezx16 => ?_)
  obtain rfl : x16 = zx16 := ex16.trans ezx16.symm
  refine lv_iload hx hb dX6_predictRegion_64 (lv_at hl 4 rfl) ?_
  refine lv_iconst (v := (2 : Int32)) hx hb dX6_predictRegion_66 (by decide) ?_
  refine lv_idiv hx hb dX6_predictRegion_67 (by decide) ?_
  obtain ⟨x17, ex17, hF⟩ := ltt_some hF
  refine lv_topi (fun zx17 ezx17 => ?_)
  obtain rfl : x17 = zx17 := ex17.trans ezx17.symm
  refine lv_iadd hx hb dX6_predictRegion_68 ?_
  obtain ⟨x18, ex18, hF⟩ := ltt_some hF
  refine lv_topi (fun zx18 ezx18 => ?_)
  obtain rfl : x18 = zx18 := ex18.trans ezx18.symm
  refine lv_istore (lv' := [(11, .int x18), (10, .int x14), (9, .int x12), (8, .int x8), (7, .int y2.2), (6, .int y1.2), (0, .ref (ad a)), (1, va_re ad p0), (2, .int p1), (3, .int p2), (4, .int p3), (5, .int p4)]) hx hb dX6_predictRegion_69 hl (by decide) rfl (fun ls hl => ?_)
  refine lv_iconst (v := (0 : Int32)) hx hb dX6_predictRegion_71 (by decide) ?_
  refine lv_istore (lv' := [(12, .int (0 : Int32)), (11, .int x18), (10, .int x14), (9, .int x12), (8, .int x8), (7, .int y2.2), (6, .int y1.2), (0, .ref (ad a)), (1, va_re ad p0), (2, .int p1), (3, .int p2), (4, .int p3), (5, .int p4)]) hx hb dX6_predictRegion_72 hl (by decide) rfl (fun ls hl => ?_)
  obtain ⟨y19, hy19, hF⟩ := bnd_some hF
  have K19 : ∀ (H : Heap) (locs : List Loc) (ls : Array Slot), va_P D classes (wld ct ad G y19.2) H → va_D A (wld ct ad G y19.2) → va_S A s.heap H locs → lv_has ls 17 [(12, .int y19.1), (11, .int x18), (10, .int x14), (9, .int x12), (8, .int x8), (7, .int y2.2), (6, .int y1.2), (0, .ref (ad a)), (1, va_re ad p0), (2, .int p1), (3, .int p2), (4, .int p3), (5, .int p4)] → W p l e (headSpec wuX6_predictRegion ({ frames := 3, cells := 0, slots := 0, locals := 77 })).room s m ([.ref (ad a), va_re ad p0, .int p1, .int p2, .int p3, .int p4] : List Value).toArray below meth c H locs 0 0 (MQ below (va_Qv (fun (_ : Unit) => True) (fun _ t => kE D ct ad G A y t) A) ([.ref (ad a), va_re ad p0, .int p1, .int p2, .int p3, .int p4] : List Value).toArray s 0 0 A) (F0 m 239 ls []) := by
    intro H locs ls hP hD hS hl
    refine lv_iconst (v := (0 : Int32)) hx hb dX6_predictRegion_239 (by decide) ?_
    refine lv_istore (lv' := [(12, .int (0 : Int32)), (11, .int x18), (10, .int x14), (9, .int x12), (8, .int x8), (7, .int y2.2), (6, .int y1.2), (0, .ref (ad a)), (1, va_re ad p0), (2, .int p1), (3, .int p2), (4, .int p3), (5, .int p4)]) hx hb dX6_predictRegion_240 hl (by decide) rfl (fun ls hl => ?_)
    obtain ⟨y22, hy22, hF⟩ := bnd_some hF
    have K22 : ∀ (H : Heap) (locs : List Loc) (ls : Array Slot), va_P D classes (wld ct ad G y22.2) H → va_D A (wld ct ad G y22.2) → va_S A s.heap H locs → lv_has ls 17 [(12, .int y22.1), (11, .int x18), (10, .int x14), (9, .int x12), (8, .int x8), (7, .int y2.2), (6, .int y1.2), (0, .ref (ad a)), (1, va_re ad p0), (2, .int p1), (3, .int p2), (4, .int p3), (5, .int p4)] → W p l e (headSpec wuX6_predictRegion ({ frames := 3, cells := 0, slots := 0, locals := 77 })).room s m ([.ref (ad a), va_re ad p0, .int p1, .int p2, .int p3, .int p4] : List Value).toArray below meth c H locs 0 0 (MQ below (va_Qv (fun (_ : Unit) => True) (fun _ t => kE D ct ad G A y t) A) ([.ref (ad a), va_re ad p0, .int p1, .int p2, .int p3, .int p4] : List Value).toArray s 0 0 A) (F0 m 314 ls []) := by
      intro H locs ls hP hD hS hl
      obtain rfl := Option.some.inj hF
      exact W.vret hx hb hr (fun t ht hW => ⟨⟨(), rfl, trivial, ⟨by rw [ht]; exact hP, va_K.moved hW.alike hK, hD⟩⟩, hS.F ht⟩) hS.2.2 dX6_predictRegion_314
    clear hF
    refine itr_rule (fun (s23 : Int32 × DD) => ∀ (H : Heap) (locs : List Loc) (ls : Array Slot), va_P D classes (wld ct ad G s23.2) H → va_D A (wld ct ad G s23.2) → va_S A s.heap H locs → lv_has ls 17 [(12, .int s23.1), (11, .int x18), (10, .int x14), (9, .int x12), (8, .int x8), (7, .int y2.2), (6, .int y1.2), (0, .ref (ad a)), (1, va_re ad p0), (2, .int p1), (3, .int p2), (4, .int p3), (5, .int p4)] → W p l e (headSpec wuX6_predictRegion ({ frames := 3, cells := 0, slots := 0, locals := 77 })).room s m ([.ref (ad a), va_re ad p0, .int p1, .int p2, .int p3, .int p4] : List Value).toArray below meth c H locs 0 0 (MQ below (va_Qv (fun (_ : Unit) => True) (fun _ t => kE D ct ad G A y t) A) ([.ref (ad a), va_re ad p0, .int p1, .int p2, .int p3, .int p4] : List Value).toArray s 0 0 A) (F0 m 242 ls [])) ?_ _ _ hy22 _ _ _ hP hD hS (lv_sub hl [0, 1, 2, 3, 4, 5, 6, 7, 8, 9, 10, 11, 12] rfl)
    rintro s23 ⟨z25, hF, hwz25⟩ H locs ls hP hD hS hl
    try dsimp only at hF
    refine lv_iload hx hb dX6_predictRegion_242 (lv_at hl 0 rfl) ?_
    refine lv_iload hx hb dX6_predictRegion_244 (lv_at hl 12 rfl) ?_
    obtain ⟨y26, hy26, hF⟩ := bnd_some hF
    have J26 : ∀ (H : Heap) (locs : List Loc) (ls : Array Slot), va_P D classes (wld ct ad G s23.2) H → va_D A (wld ct ad G s23.2) → va_S A s.heap H locs → lv_has ls 17 [(12, .int s23.1), (11, .int x18), (10, .int x14), (9, .int x12), (8, .int x8), (7, .int y2.2), (6, .int y1.2), (0, .ref (ad a)), (1, va_re ad p0), (2, .int p1), (3, .int p2), (4, .int p3), (5, .int p4)] → W p l e (headSpec wuX6_predictRegion ({ frames := 3, cells := 0, slots := 0, locals := 77 })).room s m ([.ref (ad a), va_re ad p0, .int p1, .int p2, .int p3, .int p4] : List Value).toArray below meth c H locs 0 0 (MQ below (va_Qv (fun (_ : Unit) => True) (fun _ t => kE D ct ad G A y t) A) ([.ref (ad a), va_re ad p0, .int p1, .int p2, .int p3, .int p4] : List Value).toArray s 0 0 A) (F0 m 254 ls [.int y26, .int s23.1]) := by
      intro H locs ls hP hD hS hl
      refine lv_icmp_ge (tgt := 314) hx hb dX6_predictRegion_254 (by decide) (fun c27 => ?_) (fun c27 => ?_)
      · rw [if_pos c27] at hF
        obtain rfl := Option.some.inj hF
        subst hwz25
        exact K22 _ _ _ hP hD hS (lv_sub hl [0, 1, 2, 3, 4, 5, 6, 7, 8, 9, 10, 11, 12] rfl)
      · rw [if_neg c27] at hF
        refine lv_aload_n hx hb dX6_predictRegion_257 rfl (lv_at hl 7 rfl) ?_
        refine lv_aloadq_n hx hb dX6_predictRegion_258 rfl (lv_at hl 8 rfl) ?_
        refine lv_iload hx hb dX6_predictRegion_259 (lv_at hl 0 rfl) ?_
        obtain ⟨y28, hy28, hF⟩ := bnd_some hF
        have hf9 := wA_in hD hA9 hS
        refine va_calli (va_runV (As := [va_re ad p0, .int s23.1]) (rest := []) ⟨hx, hb, hml, hown, hts⟩ (kX6_chooseWeights l D ct ad Z G s23.2 H.size a p0 s23.1 y28 hc hk hy28) (cwV 2 hts gX6_predictRegion_X6_chooseWeights rfl rfl rfl (by decide +kernel) ⟨Nat.le_of_ble_eq_true rfl, Nat.le_of_ble_eq_true rfl⟩) ⟨fun a U g mk q => by obtain ⟨q0, q1, qP, qK, qD, qZ, qN⟩ := q; exact ⟨q0, q1, qP, va_K.moved (u := U) (U := U.calling g mk a) (Vm.Alike.refl U.vm) qK, qD, sF.moved (u := U) (U := U.calling g mk a) (Vm.Alike.refl U.vm) qZ, nF.same rfl qN⟩, va_recv hK hP (ci := 6) (q0 := a) rfl (wld_o ct ad G s23.2 hc hk (by decide)), fun U hU hW => ⟨rfl, by rw [hU], by rw [hU]; exact hP, va_K.moved hW.alike hK, hD.weaken (fun _ _ _ _ => trivial), by rw [hU]; exact ((hZ.kept hS.2.1).narrow hf9).moved hW.alike, hN.warm hW⟩⟩ rfl rfl hl.1 rfl (lv_room (Nat.le_of_ble_eq_true rfl)) dX6_predictRegion_261 ⟨(Nat.zero_le _), (Nat.zero_le _)⟩) hS (fun q _ h => hf9 q h) hf9 (fun r u t H locs ht hvm hw hB hz1 hk1 hS => ?_)
        obtain ⟨hP, hK9, hD9⟩ := hB
        rw [ht] at hP
        try dsimp only at hw
        subst hw
        have hD := hD9.weaken (fun _ q _ h => hf9 q.1 h)
        refine lv_istore (lv' := [(13, .int y28.2), (12, .int s23.1), (11, .int x18), (10, .int x14), (9, .int x12), (8, .int x8), (7, .int y2.2), (6, .int y1.2), (0, .ref (ad a)), (1, va_re ad p0), (2, .int p1), (3, .int p2), (4, .int p3), (5, .int p4)]) hx hb dX6_predictRegion_264 hl (by decide) rfl (fun ls hl => ?_)
        refine lv_iload hx hb dX6_predictRegion_266 (lv_at hl 1 rfl) ?_
        obtain ⟨y29, hy29, hF⟩ := bnd_some hF
        have J29 : ∀ (H : Heap) (locs : List Loc) (ls : Array Slot), va_P D classes (wld ct ad G y29) H → va_D A (wld ct ad G y29) → va_S A s.heap H locs → lv_has ls 17 [(13, .int y28.2), (12, .int s23.1), (11, .int x18), (10, .int x14), (9, .int x12), (8, .int x8), (7, .int y2.2), (6, .int y1.2), (0, .ref (ad a)), (1, va_re ad p0), (2, .int p1), (3, .int p2), (4, .int p3), (5, .int p4)] → W p l e (headSpec wuX6_predictRegion ({ frames := 3, cells := 0, slots := 0, locals := 77 })).room s m ([.ref (ad a), va_re ad p0, .int p1, .int p2, .int p3, .int p4] : List Value).toArray below meth c H locs 0 0 (MQ below (va_Qv (fun (_ : Unit) => True) (fun _ t => kE D ct ad G A y t) A) ([.ref (ad a), va_re ad p0, .int p1, .int p2, .int p3, .int p4] : List Value).toArray s 0 0 A) (F0 m 308 ls []) := by
          intro H locs ls hP hD hS hl
          obtain ⟨x30, ex30, hF⟩ := ltt_some hF
          refine lv_iinc (v := x30) (lv' := [(12, .int x30), (13, .int y28.2), (11, .int x18), (10, .int x14), (9, .int x12), (8, .int x8), (7, .int y2.2), (6, .int y1.2), (0, .ref (ad a)), (1, va_re ad p0), (2, .int p1), (3, .int p2), (4, .int p3), (5, .int p4)]) hx hb dX6_predictRegion_308 hl (k := 1) rfl (by rw [ex30]; rfl) (by decide) rfl (fun ls hl => ?_)
          refine lv_goto (tgt := 242) hx hb dX6_predictRegion_311 (by decide) ?_
          obtain rfl := Option.some.inj hF
          exact hwz25 _ _ _ hP hD hS (lv_sub hl [0, 2, 3, 4, 5, 6, 7, 8, 9, 10, 11, 12, 13] rfl)
        clear hF
        have hF := hy29
        clear hy29
        refine lv_if_ne (tgt := 286) hx hb dX6_predictRegion_268 (by decide) (fun c31 => ?_) (fun c31 => ?_)
        · rw [if_neg c31] at hF
          refine lv_aload_n hx hb dX6_predictRegion_286 rfl (lv_at hl 8 rfl) ?_
          refine lv_iload hx hb dX6_predictRegion_287 (lv_at hl 0 rfl) ?_
          refine lv_iload hx hb dX6_predictRegion_289 (lv_at hl 2 rfl) ?_
          refine lv_bipush (v := (64 : Int32)) hx hb dX6_predictRegion_291 (by decide) ?_
          refine lv_iload hx hb dX6_predictRegion_293 (lv_at hl 1 rfl) ?_
          refine lv_iconst (v := (1 : Int32)) hx hb dX6_predictRegion_295 (by decide) ?_
          refine lv_isub hx hb dX6_predictRegion_296 ?_
          obtain ⟨x32, ex32, hF⟩ := ltt_some hF
          refine lv_topi (fun zx32 ezx32 => ?_)
          obtain rfl : x32 = zx32 := ex32.trans ezx32.symm
          refine lv_imul hx hb dX6_predictRegion_297 ?_
          obtain ⟨x33, ex33, hF⟩ := ltt_some hF
          refine lv_topi (fun zx33 ezx33 => ?_)
          obtain rfl : x33 = zx33 := ex33.trans ezx33.symm
          refine lv_iadd hx hb dX6_predictRegion_298 ?_
          obtain ⟨x34, ex34, hF⟩ := ltt_some hF
          refine lv_topi (fun zx34 ezx34 => ?_)
          obtain rfl : x34 = zx34 := ex34.trans ezx34.symm
          refine lv_bipush (v := (8 : Int32)) hx hb dX6_predictRegion_299 (by decide) ?_
          refine lv_iload hx hb dX6_predictRegion_301 (lv_at hl 12 rfl) ?_
          refine lv_iconst (v := (2 : Int32)) hx hb dX6_predictRegion_303 (by decide) ?_
          refine lv_idiv hx hb dX6_predictRegion_304 (by decide) ?_
          obtain ⟨x35, ex35, hF⟩ := ltt_some hF
          refine lv_topi (fun zx35 ezx35 => ?_)
          obtain rfl : x35 = zx35 := ex35.trans ezx35.symm
          obtain ⟨y36, hy36, hF⟩ := bnd_some hF
          have hf9 := wA_in hD hA9 hS
          refine va_callv (va_runV (As := [.int y28.2, .int x34, .int (8 : Int32), .int x35]) (rest := []) ⟨hx, hb, hml, hown, hts⟩ (kX6_blend l D ct ad Z G y28.1 H.size a y28.2 x34 ((8 : Int32)) x35 y36 hc hk hy36) (cwV 4 hts gX6_predictRegion_X6_blend rfl rfl rfl (by decide +kernel) ⟨Nat.le_of_ble_eq_true rfl, Nat.le_of_ble_eq_true rfl⟩) ⟨fun a U g mk q => by obtain ⟨q0, q1, qP, qK, qD, qZ, qN⟩ := q; exact ⟨q0, q1, qP, va_K.moved (u := U) (U := U.calling g mk a) (Vm.Alike.refl U.vm) qK, qD, sF.moved (u := U) (U := U.calling g mk a) (Vm.Alike.refl U.vm) qZ, nF.same rfl qN⟩, va_recv hK hP (ci := 6) (q0 := a) rfl (wld_o ct ad G y28.1 hc hk (by decide)), fun U hU hW => ⟨rfl, by rw [hU], by rw [hU]; exact hP, va_K.moved hW.alike hK, hD.weaken (fun _ _ _ _ => trivial), by rw [hU]; exact ((hZ.kept hS.2.1).narrow hf9).moved hW.alike, hN.warm hW⟩⟩ rfl rfl hl.1 rfl (lv_room (Nat.le_of_ble_eq_true rfl)) dX6_predictRegion_305 ⟨(Nat.zero_le _), (Nat.zero_le _)⟩) hS (fun q _ h => hf9 q h) hf9 (fun u t H locs ht hvm hw hB hz1 hk1 hS => ?_)
          obtain ⟨hP, hK9, hD9⟩ := hB
          rw [ht] at hP
          have hD := hD9.weaken (fun _ q _ h => hf9 q.1 h)
          obtain rfl := Option.some.inj hF
          exact J29 _ _ _ hP hD hS (lv_sub hl [0, 1, 2, 3, 4, 5, 6, 7, 8, 9, 10, 11, 12, 13] rfl)
        · rw [if_pos c31] at hF
          refine lv_aload_n hx hb dX6_predictRegion_271 rfl (lv_at hl 8 rfl) ?_
          refine lv_iload hx hb dX6_predictRegion_272 (lv_at hl 0 rfl) ?_
          refine lv_iload hx hb dX6_predictRegion_274 (lv_at hl 3 rfl) ?_
          refine lv_bipush (v := (16 : Int32)) hx hb dX6_predictRegion_276 (by decide) ?_
          refine lv_iload hx hb dX6_predictRegion_278 (lv_at hl 12 rfl) ?_
          obtain ⟨y37, hy37, hF⟩ := bnd_some hF
          have hf9 := wA_in hD hA9 hS
          refine va_callv (va_runV (As := [.int y28.2, .int x14, .int (16 : Int32), .int p3]) (rest := []) ⟨hx, hb, hml, hown, hts⟩ (kX6_blend l D ct ad Z G y28.1 H.size a y28.2 x14 ((16 : Int32)) p3 y37 hc hk hy37) (cwV 4 hts gX6_predictRegion_X6_blend rfl rfl rfl (by decide +kernel) ⟨Nat.le_of_ble_eq_true rfl, Nat.le_of_ble_eq_true rfl⟩) ⟨fun a U g mk q => by obtain ⟨q0, q1, qP, qK, qD, qZ, qN⟩ := q; exact ⟨q0, q1, qP, va_K.moved (u := U) (U := U.calling g mk a) (Vm.Alike.refl U.vm) qK, qD, sF.moved (u := U) (U := U.calling g mk a) (Vm.Alike.refl U.vm) qZ, nF.same rfl qN⟩, va_recv hK hP (ci := 6) (q0 := a) rfl (wld_o ct ad G y28.1 hc hk (by decide)), fun U hU hW => ⟨rfl, by rw [hU], by rw [hU]; exact hP, va_K.moved hW.alike hK, hD.weaken (fun _ _ _ _ => trivial), by rw [hU]; exact ((hZ.kept hS.2.1).narrow hf9).moved hW.alike, hN.warm hW⟩⟩ rfl rfl hl.1 rfl (lv_room (Nat.le_of_ble_eq_true rfl)) dX6_predictRegion_280 ⟨(Nat.zero_le _), (Nat.zero_le _)⟩) hS (fun q _ h => hf9 q h) hf9 (fun u t H locs ht hvm hw hB hz1 hk1 hS => ?_)
          obtain ⟨hP, hK9, hD9⟩ := hB
          rw [ht] at hP
          have hD := hD9.weaken (fun _ q _ h => hf9 q.1 h)
          refine lv_goto (tgt := 308) hx hb dX6_predictRegion_283 (by decide) ?_
          obtain rfl := Option.some.inj hF
          exact J29 _ _ _ hP hD hS (lv_sub hl [0, 1, 2, 3, 4, 5, 6, 7, 8, 9, 10, 11, 12, 13] rfl)
    clear hF
    have hF := hy26
    clear hy26
    refine lv_if_eq (tgt := 253) hx hb dX6_predictRegion_246 (by decide) (fun c38 => ?_) (fun c38 => ?_)
    · rw [if_pos c38] at hF
      refine lv_iconst (v := (1 : Int32)) hx hb dX6_predictRegion_253 (by decide) ?_
      obtain rfl := Option.some.inj hF
      exact J26 _ _ _ hP hD hS (lv_sub hl [0, 1, 2, 3, 4, 5, 6, 7, 8, 9, 10, 11, 12] rfl)
    · rw [if_neg c38] at hF
      refine lv_iconst (v := (3 : Int32)) hx hb dX6_predictRegion_249 (by decide) ?_
      refine lv_goto (tgt := 254) hx hb dX6_predictRegion_250 (by decide) ?_
      obtain rfl := Option.some.inj hF
      exact J26 _ _ _ hP hD hS (lv_sub hl [0, 1, 2, 3, 4, 5, 6, 7, 8, 9, 10, 11, 12] rfl)
  clear hF
  refine itr_rule (fun (s20 : Int32 × DD) => ∀ (H : Heap) (locs : List Loc) (ls : Array Slot), va_P D classes (wld ct ad G s20.2) H → va_D A (wld ct ad G s20.2) → va_S A s.heap H locs → lv_has ls 17 [(12, .int s20.1), (11, .int x18), (10, .int x14), (9, .int x12), (8, .int x8), (7, .int y2.2), (6, .int y1.2), (0, .ref (ad a)), (1, va_re ad p0), (2, .int p1), (3, .int p2), (4, .int p3), (5, .int p4)] → W p l e (headSpec wuX6_predictRegion ({ frames := 3, cells := 0, slots := 0, locals := 77 })).room s m ([.ref (ad a), va_re ad p0, .int p1, .int p2, .int p3, .int p4] : List Value).toArray below meth c H locs 0 0 (MQ below (va_Qv (fun (_ : Unit) => True) (fun _ t => kE D ct ad G A y t) A) ([.ref (ad a), va_re ad p0, .int p1, .int p2, .int p3, .int p4] : List Value).toArray s 0 0 A) (F0 m 74 ls [])) ?_ _ _ hy19 _ _ _ hP hD hS (lv_sub hl [0, 1, 2, 3, 4, 5, 6, 7, 8, 9, 10, 11, 12] rfl)
  rintro s20 ⟨z39, hF, hwz39⟩ H locs ls hP hD hS hl
  try dsimp only at hF
  refine lv_iload hx hb dX6_predictRegion_74 (lv_at hl 0 rfl) ?_
  refine lv_iconst (v := (2 : Int32)) hx hb dX6_predictRegion_76 (by decide) ?_
  refine lv_icmp_ge (tgt := 239) hx hb dX6_predictRegion_77 (by decide) (fun c40 => ?_) (fun c40 => ?_)
  · rw [if_pos c40] at hF
    obtain rfl := Option.some.inj hF
    subst hwz39
    exact K19 _ _ _ hP hD hS (lv_sub hl [0, 1, 2, 3, 4, 5, 6, 7, 8, 9, 10, 11, 12] rfl)
  · rw [if_neg c40] at hF
    refine lv_aload_n hx hb dX6_predictRegion_80 rfl (lv_at hl 7 rfl) ?_
    refine va_get (D := D) (ci := 6) (v := va_re ad (s20.2.2 a 5)) (C := RX6) (T := TX6) (N := 14) hx hb hts (mus hf_X6) hown hK hP a (wld_o ct ad G s20.2 hc hk (by decide)) rfl 5 (by decide) (hts (.fieldLink RX6 27 "VideoSuite$Samples" "motion" "[I") (mu mw_540)) (fun _ h9 => h9) rfl dX6_predictRegion_81 ?_
    refine lv_iconst (v := (3 : Int32)) hx hb dX6_predictRegion_84 (by decide) ?_
    refine lv_iload hx hb dX6_predictRegion_85 (lv_at hl 0 rfl) ?_
    refine lv_imul hx hb dX6_predictRegion_87 ?_
    obtain ⟨x41, ex41, hF⟩ := ltt_some hF
    refine lv_topi (fun zx41 ezx41 => ?_)
    obtain rfl : x41 = zx41 := ex41.trans ezx41.symm
    obtain ⟨b42, ho42, hc42, hk42, hF⟩ := dr_some hF
    refine W_st (st' := [.int x41, .ref (ad b42)]) (by rw [va_some ho42]) ?_
    obtain ⟨hvc, hF⟩ := chk_some hF
    refine va_iald hx hb hK hP b42 1 (wld_i ct ad G s20.2 hc42 hk42) rfl hvc dX6_predictRegion_88 ?_
    obtain ⟨x43, ex43, hF⟩ := ltt_some hF
    refine lv_topi (fun zx43 ezx43 => ?_)
    obtain rfl : x43 = zx43 := ex43.trans ezx43.symm
    refine lv_istore (lv' := [(13, .int x43), (12, .int s20.1), (11, .int x18), (10, .int x14), (9, .int x12), (8, .int x8), (7, .int y2.2), (6, .int y1.2), (0, .ref (ad a)), (1, va_re ad p0), (2, .int p1), (3, .int p2), (4, .int p3), (5, .int p4)]) hx hb dX6_predictRegion_89 hl (by decide) rfl (fun ls hl => ?_)
    refine lv_iload hx hb dX6_predictRegion_91 (lv_at hl 0 rfl) ?_
    obtain ⟨y44, hy44, hF⟩ := bnd_some hF
    have J44 : ∀ (H : Heap) (locs : List Loc) (ls : Array Slot), va_P D classes (wld ct ad G s20.2) H → va_D A (wld ct ad G s20.2) → va_S A s.heap H locs → lv_has ls 17 [(13, .int x43), (12, .int s20.1), (11, .int x18), (10, .int x14), (9, .int x12), (8, .int x8), (7, .int y2.2), (6, .int y1.2), (0, .ref (ad a)), (1, va_re ad p0), (2, .int p1), (3, .int p2), (4, .int p3), (5, .int p4)] → W p l e (headSpec wuX6_predictRegion ({ frames := 3, cells := 0, slots := 0, locals := 77 })).room s m ([.ref (ad a), va_re ad p0, .int p1, .int p2, .int p3, .int p4] : List Value).toArray below meth c H locs 0 0 (MQ below (va_Qv (fun (_ : Unit) => True) (fun _ t => kE D ct ad G A y t) A) ([.ref (ad a), va_re ad p0, .int p1, .int p2, .int p3, .int p4] : List Value).toArray s 0 0 A) (F0 m 120 ls [va_re ad y44]) := by
      intro H locs ls hP hD hS hl
      refine lv_astoreq (lv' := [(14, va_re ad y44), (13, .int x43), (12, .int s20.1), (11, .int x18), (10, .int x14), (9, .int x12), (8, .int x8), (7, .int y2.2), (6, .int y1.2), (0, .ref (ad a)), (1, va_re ad p0), (2, .int p1), (3, .int p2), (4, .int p3), (5, .int p4)]) hx hb dX6_predictRegion_120 hl (by decide) rfl (fun ls hl => ?_)
      refine lv_aloadq hx hb dX6_predictRegion_122 (lv_at hl 0 rfl) ?_
      obtain ⟨y45, hy45, hF⟩ := bnd_some hF
      have J45 : ∀ (H : Heap) (locs : List Loc) (ls : Array Slot), va_P D classes (wld ct ad G y45) H → va_D A (wld ct ad G y45) → va_S A s.heap H locs → lv_has ls 17 [(14, va_re ad y44), (13, .int x43), (12, .int s20.1), (11, .int x18), (10, .int x14), (9, .int x12), (8, .int x8), (7, .int y2.2), (6, .int y1.2), (0, .ref (ad a)), (1, va_re ad p0), (2, .int p1), (3, .int p2), (4, .int p3), (5, .int p4)] → W p l e (headSpec wuX6_predictRegion ({ frames := 3, cells := 0, slots := 0, locals := 77 })).room s m ([.ref (ad a), va_re ad p0, .int p1, .int p2, .int p3, .int p4] : List Value).toArray below meth c H locs 0 0 (MQ below (va_Qv (fun (_ : Unit) => True) (fun _ t => kE D ct ad G A y t) A) ([.ref (ad a), va_re ad p0, .int p1, .int p2, .int p3, .int p4] : List Value).toArray s 0 0 A) (F0 m 233 ls []) := by
        intro H locs ls hP hD hS hl
        obtain ⟨x46, ex46, hF⟩ := ltt_some hF
        refine lv_iinc (v := x46) (lv' := [(12, .int x46), (14, va_re ad y44), (13, .int x43), (11, .int x18), (10, .int x14), (9, .int x12), (8, .int x8), (7, .int y2.2), (6, .int y1.2), (0, .ref (ad a)), (1, va_re ad p0), (2, .int p1), (3, .int p2), (4, .int p3), (5, .int p4)]) hx hb dX6_predictRegion_233 hl (k := 2) rfl (by rw [ex46]; rfl) (by decide) rfl (fun ls hl => ?_)
        refine lv_goto (tgt := 74) hx hb dX6_predictRegion_236 (by decide) ?_
        obtain rfl := Option.some.inj hF
        exact hwz39 _ _ _ hP hD hS (lv_sub hl [0, 3, 4, 5, 6, 7, 8, 9, 10, 11, 12, 13, 14] rfl)
      clear hF
      have hF := hy45
      clear hy45
      refine lv_ifnonnullq (tgt := 130) hx hb dX6_predictRegion_124 (by decide) (fun c47 => ?_) (fun c47 => ?_)
      · rw [if_neg c47] at hF
        refine lv_iconst (v := (4 : Int32)) hx hb dX6_predictRegion_130 (by decide) ?_
        refine lv_iload hx hb dX6_predictRegion_131 (lv_at hl 6 rfl) ?_
        refine lv_imul hx hb dX6_predictRegion_133 ?_
        obtain ⟨x48, ex48, hF⟩ := ltt_some hF
        refine lv_topi (fun zx48 ezx48 => ?_)
        obtain rfl : x48 = zx48 := ex48.trans ezx48.symm
        refine lv_aload_n hx hb dX6_predictRegion_134 rfl (lv_at hl 9 rfl) ?_
        refine va_get (D := D) (ci := 6) (v := va_re ad (s20.2.2 a 5)) (C := RX6) (T := TX6) (N := 14) hx hb hts (mus hf_X6) hown hK hP a (wld_o ct ad G s20.2 hc hk (by decide)) rfl 5 (by decide) (hts (.fieldLink RX6 27 "VideoSuite$Samples" "motion" "[I") (mu mw_540)) (fun _ h9 => h9) rfl dX6_predictRegion_135 ?_
        refine lv_iconst (v := (3 : Int32)) hx hb dX6_predictRegion_138 (by decide) ?_
        refine lv_iload hx hb dX6_predictRegion_139 (lv_at hl 2 rfl) ?_
        refine lv_imul hx hb dX6_predictRegion_141 ?_
        obtain ⟨x49, ex49, hF⟩ := ltt_some hF
        refine lv_topi (fun zx49 ezx49 => ?_)
        obtain rfl : x49 = zx49 := ex49.trans ezx49.symm
        refine lv_iconst (v := (1 : Int32)) hx hb dX6_predictRegion_142 (by decide) ?_
        refine lv_iadd hx hb dX6_predictRegion_143 ?_
        obtain ⟨x50, ex50, hF⟩ := ltt_some hF
        refine lv_topi (fun zx50 ezx50 => ?_)
        obtain rfl : x50 = zx50 := ex50.trans ezx50.symm
        refine W_st (st' := [.int x50, .ref (ad b42), .int x48]) (by rw [va_some ho42]) ?_
        obtain ⟨hvc, hF⟩ := chk_some hF
        refine va_iald hx hb hK hP b42 1 (wld_i ct ad G s20.2 hc42 hk42) rfl hvc dX6_predictRegion_144 ?_
        obtain ⟨x51, ex51, hF⟩ := ltt_some hF
        refine lv_topi (fun zx51 ezx51 => ?_)
        obtain rfl : x51 = zx51 := ex51.trans ezx51.symm
        refine lv_iadd hx hb dX6_predictRegion_145 ?_
        obtain ⟨x52, ex52, hF⟩ := ltt_some hF
        refine lv_topi (fun zx52 ezx52 => ?_)
        obtain rfl : x52 = zx52 := ex52.trans ezx52.symm
        refine lv_istore (lv' := [(15, .int x52), (14, va_re ad y44), (13, .int x43), (12, .int s20.1), (11, .int x18), (10, .int x14), (9, .int x12), (8, .int x8), (7, .int y2.2), (6, .int y1.2), (0, .ref (ad a)), (1, va_re ad p0), (2, .int p1), (3, .int p2), (4, .int p3), (5, .int p4)]) hx hb dX6_predictRegion_146 hl (by decide) (by generalize y44 = o9; cases o9 <;> rfl) (fun ls hl => ?_)
        refine lv_iconst (v := (4 : Int32)) hx hb dX6_predictRegion_148 (by decide) ?_
        refine lv_iload hx hb dX6_predictRegion_149 (lv_at hl 6 rfl) ?_
        refine lv_imul hx hb dX6_predictRegion_151 ?_
        obtain ⟨x53, ex53, hF⟩ := ltt_some hF
        refine lv_topi (fun zx53 ezx53 => ?_)
        obtain rfl : x53 = zx53 := ex53.trans ezx53.symm
        refine lv_aload_n hx hb dX6_predictRegion_152 rfl (lv_at hl 10 rfl) ?_
        refine va_get (D := D) (ci := 6) (v := va_re ad (s20.2.2 a 5)) (C := RX6) (T := TX6) (N := 14) hx hb hts (mus hf_X6) hown hK hP a (wld_o ct ad G s20.2 hc hk (by decide)) rfl 5 (by decide) (hts (.fieldLink RX6 27 "VideoSuite$Samples" "motion" "[I") (mu mw_540)) (fun _ h9 => h9) rfl dX6_predictRegion_153 ?_
        refine lv_iconst (v := (3 : Int32)) hx hb dX6_predictRegion_156 (by decide) ?_
        refine lv_iload hx hb dX6_predictRegion_157 (lv_at hl 3 rfl) ?_
        refine lv_imul hx hb dX6_predictRegion_159 ?_
        obtain ⟨x54, ex54, hF⟩ := ltt_some hF
        refine lv_topi (fun zx54 ezx54 => ?_)
        obtain rfl : x54 = zx54 := ex54.trans ezx54.symm
        refine lv_iconst (v := (2 : Int32)) hx hb dX6_predictRegion_160 (by decide) ?_
        refine lv_iadd hx hb dX6_predictRegion_161 ?_
        obtain ⟨x55, ex55, hF⟩ := ltt_some hF
        refine lv_topi (fun zx55 ezx55 => ?_)
        obtain rfl : x55 = zx55 := ex55.trans ezx55.symm
        refine W_st (st' := [.int x55, .ref (ad b42), .int x53]) (by rw [va_some ho42]) ?_
        obtain ⟨hvc, hF⟩ := chk_some hF
        refine va_iald hx hb hK hP b42 1 (wld_i ct ad G s20.2 hc42 hk42) rfl hvc dX6_predictRegion_162 ?_
        obtain ⟨x56, ex56, hF⟩ := ltt_some hF
        refine lv_topi (fun zx56 ezx56 => ?_)
        obtain rfl : x56 = zx56 := ex56.trans ezx56.symm
        refine lv_iadd hx hb dX6_predictRegion_163 ?_
        obtain ⟨x57, ex57, hF⟩ := ltt_some hF
        refine lv_topi (fun zx57 ezx57 => ?_)
        obtain rfl : x57 = zx57 := ex57.trans ezx57.symm
        refine lv_istore (lv' := [(16, .int x57), (15, .int x52), (14, va_re ad y44), (13, .int x43), (12, .int s20.1), (11, .int x18), (10, .int x14), (9, .int x12), (8, .int x8), (7, .int y2.2), (6, .int y1.2), (0, .ref (ad a)), (1, va_re ad p0), (2, .int p1), (3, .int p2), (4, .int p3), (5, .int p4)]) hx hb dX6_predictRegion_164 hl (by decide) rfl (fun ls hl => ?_)
        refine lv_aload_n hx hb dX6_predictRegion_166 rfl (lv_at hl 11 rfl) ?_
        refine lv_aloadq hx hb dX6_predictRegion_167 (lv_at hl 2 rfl) ?_
        refine lv_iload hx hb dX6_predictRegion_169 (lv_at hl 1 rfl) ?_
        refine lv_iload hx hb dX6_predictRegion_171 (lv_at hl 0 rfl) ?_
        refine lv_iload hx hb dX6_predictRegion_173 (lv_at hl 15 rfl) ?_
        refine lv_iload hx hb dX6_predictRegion_175 (lv_at hl 4 rfl) ?_
        obtain ⟨y58, hy58, hF⟩ := bnd_some hF
        have J58 : ∀ (H : Heap) (locs : List Loc) (ls : Array Slot), va_P D classes (wld ct ad G s20.2) H → va_D A (wld ct ad G s20.2) → va_S A s.heap H locs → lv_has ls 17 [(16, .int x57), (15, .int x52), (14, va_re ad y44), (13, .int x43), (12, .int s20.1), (11, .int x18), (10, .int x14), (9, .int x12), (8, .int x8), (7, .int y2.2), (6, .int y1.2), (0, .ref (ad a)), (1, va_re ad p0), (2, .int p1), (3, .int p2), (4, .int p3), (5, .int p4)] → W p l e (headSpec wuX6_predictRegion ({ frames := 3, cells := 0, slots := 0, locals := 77 })).room s m ([.ref (ad a), va_re ad p0, .int p1, .int p2, .int p3, .int p4] : List Value).toArray below meth c H locs 0 0 (MQ below (va_Qv (fun (_ : Unit) => True) (fun _ t => kE D ct ad G A y t) A) ([.ref (ad a), va_re ad p0, .int p1, .int p2, .int p3, .int p4] : List Value).toArray s 0 0 A) (F0 m 191 ls [va_re ad y58, .int p3, .int x57, .int x52, va_re ad y44, .ref (ad a)]) := by
          intro H locs ls hP hD hS hl
          refine lv_iload hx hb dX6_predictRegion_191 (lv_at hl 6 rfl) ?_
          obtain ⟨y59, hy59, hF⟩ := bnd_some hF
          have hf9 := wA_in hD hA9 hS
          refine va_callv (va_runV (As := [va_re ad y44, .int x52, .int x57, .int p3, va_re ad y58, .int x14]) (rest := []) ⟨hx, hb, hml, hown, hts⟩ (kX6_predictLuma l D ct ad Z G s20.2 H.size a y44 x52 x57 p3 y58 x14 y59 hc hk hy59) (cwV 6 hts gX6_predictRegion_X6_predictLuma rfl rfl rfl (by decide +kernel) ⟨Nat.le_of_ble_eq_true rfl, Nat.le_of_ble_eq_true rfl⟩) ⟨fun a U g mk q => by obtain ⟨q0, q1, qP, qK, qD, qZ, qN⟩ := q; exact ⟨q0, q1, qP, va_K.moved (u := U) (U := U.calling g mk a) (Vm.Alike.refl U.vm) qK, qD, sF.moved (u := U) (U := U.calling g mk a) (Vm.Alike.refl U.vm) qZ, nF.same rfl qN⟩, va_recv hK hP (ci := 6) (q0 := a) rfl (wld_o ct ad G s20.2 hc hk (by decide)), fun U hU hW => ⟨rfl, by rw [hU], by rw [hU]; exact hP, va_K.moved hW.alike hK, hD.weaken (fun _ _ _ _ => trivial), by rw [hU]; exact ((hZ.kept hS.2.1).narrow hf9).moved hW.alike, hN.warm hW⟩⟩ rfl rfl hl.1 rfl (lv_room (Nat.le_of_ble_eq_true rfl)) dX6_predictRegion_193 ⟨(Nat.zero_le _), (Nat.zero_le _)⟩) hS (fun q _ h => hf9 q h) hf9 (fun u t H locs ht hvm hw hB hz1 hk1 hS => ?_)
          obtain ⟨hP, hK9, hD9⟩ := hB
          rw [ht] at hP
          have hD := hD9.weaken (fun _ q _ h => hf9 q.1 h)
          refine lv_iload hx hb dX6_predictRegion_196 (lv_at hl 16 rfl) ?_
          obtain ⟨y60, hy60, hF⟩ := bnd_some hF
          have J60 : ∀ (H : Heap) (locs : List Loc) (ls : Array Slot), va_P D classes (wld ct ad G y60) H → va_D A (wld ct ad G y60) → va_S A s.heap H locs → lv_has ls 17 [(16, .int x57), (15, .int x52), (14, va_re ad y44), (13, .int x43), (12, .int s20.1), (11, .int x18), (10, .int x14), (9, .int x12), (8, .int x8), (7, .int y2.2), (6, .int y1.2), (0, .ref (ad a)), (1, va_re ad p0), (2, .int p1), (3, .int p2), (4, .int p3), (5, .int p4)] → W p l e (headSpec wuX6_predictRegion ({ frames := 3, cells := 0, slots := 0, locals := 77 })).room s m ([.ref (ad a), va_re ad p0, .int p1, .int p2, .int p3, .int p4] : List Value).toArray below meth c H locs 0 0 (MQ below (va_Qv (fun (_ : Unit) => True) (fun _ t => kE D ct ad G A y t) A) ([.ref (ad a), va_re ad p0, .int p1, .int p2, .int p3, .int p4] : List Value).toArray s 0 0 A) (F0 m 233 ls []) := by
            intro H locs ls hP hD hS hl
            obtain rfl := Option.some.inj hF
            exact J45 _ _ _ hP hD hS (lv_sub hl [2, 3, 4, 5, 6, 7, 8, 9, 10, 11, 12, 13, 14, 15, 16] rfl)
          clear hF
          have hF := hy60
          clear hy60
          refine lv_if_eq (tgt := 233) hx hb dX6_predictRegion_198 (by decide) (fun c61 => ?_) (fun c61 => ?_)
          · rw [if_pos c61] at hF
            obtain rfl := Option.some.inj hF
            exact J60 _ _ _ hP hD hS (lv_sub hl [0, 1, 2, 3, 4, 5, 6, 7, 8, 9, 10, 11, 12, 13, 14, 15, 16] rfl)
          · rw [if_neg c61] at hF
            refine lv_aload_n hx hb dX6_predictRegion_201 rfl (lv_at hl 11 rfl) ?_
            refine lv_aloadq hx hb dX6_predictRegion_202 (lv_at hl 2 rfl) ?_
            refine lv_iload hx hb dX6_predictRegion_204 (lv_at hl 1 rfl) ?_
            refine lv_iload hx hb dX6_predictRegion_206 (lv_at hl 0 rfl) ?_
            refine lv_iload hx hb dX6_predictRegion_208 (lv_at hl 15 rfl) ?_
            refine lv_iconst (v := (2 : Int32)) hx hb dX6_predictRegion_210 (by decide) ?_
            refine lv_idiv hx hb dX6_predictRegion_211 (by decide) ?_
            obtain ⟨x62, ex62, hF⟩ := ltt_some hF
            refine lv_topi (fun zx62 ezx62 => ?_)
            obtain rfl : x62 = zx62 := ex62.trans ezx62.symm
            refine lv_iload hx hb dX6_predictRegion_212 (lv_at hl 4 rfl) ?_
            obtain ⟨y63, hy63, hF⟩ := bnd_some hF
            have J63 : ∀ (H : Heap) (locs : List Loc) (ls : Array Slot), va_P D classes (wld ct ad G y59) H → va_D A (wld ct ad G y59) → va_S A s.heap H locs → lv_has ls 17 [(16, .int x57), (15, .int x52), (14, va_re ad y44), (13, .int x43), (12, .int s20.1), (11, .int x18), (10, .int x14), (9, .int x12), (8, .int x8), (7, .int y2.2), (6, .int y1.2), (0, .ref (ad a)), (1, va_re ad p0), (2, .int p1), (3, .int p2), (4, .int p3), (5, .int p4)] → W p l e (headSpec wuX6_predictRegion ({ frames := 3, cells := 0, slots := 0, locals := 77 })).room s m ([.ref (ad a), va_re ad p0, .int p1, .int p2, .int p3, .int p4] : List Value).toArray below meth c H locs 0 0 (MQ below (va_Qv (fun (_ : Unit) => True) (fun _ t => kE D ct ad G A y t) A) ([.ref (ad a), va_re ad p0, .int p1, .int p2, .int p3, .int p4] : List Value).toArray s 0 0 A) (F0 m 228 ls [va_re ad y63, .int x62, .int x57, .int x52, va_re ad y44, .ref (ad a)]) := by
              intro H locs ls hP hD hS hl
              refine lv_iload hx hb dX6_predictRegion_228 (lv_at hl 5 rfl) ?_
              obtain ⟨y64, hy64, hF⟩ := bnd_some hF
              have hf9 := wA_in hD hA9 hS
              refine va_callv (va_runV (As := [va_re ad y44, .int x52, .int x57, .int x62, va_re ad y63, .int x18]) (rest := []) ⟨hx, hb, hml, hown, hts⟩ (kX6_predictColours l D ct ad Z G y59 H.size a y44 x52 x57 x62 y63 x18 y64 hc hk hy64) (cwV 6 hts gX6_predictRegion_X6_predictColours rfl rfl rfl (by decide +kernel) ⟨Nat.le_of_ble_eq_true rfl, Nat.le_of_ble_eq_true rfl⟩) ⟨fun a U g mk q => by obtain ⟨q0, q1, qP, qK, qD, qZ, qN⟩ := q; exact ⟨q0, q1, qP, va_K.moved (u := U) (U := U.calling g mk a) (Vm.Alike.refl U.vm) qK, qD, sF.moved (u := U) (U := U.calling g mk a) (Vm.Alike.refl U.vm) qZ, nF.same rfl qN⟩, va_recv hK hP (ci := 6) (q0 := a) rfl (wld_o ct ad G y59 hc hk (by decide)), fun U hU hW => ⟨rfl, by rw [hU], by rw [hU]; exact hP, va_K.moved hW.alike hK, hD.weaken (fun _ _ _ _ => trivial), by rw [hU]; exact ((hZ.kept hS.2.1).narrow hf9).moved hW.alike, hN.warm hW⟩⟩ rfl rfl hl.1 rfl (lv_room (Nat.le_of_ble_eq_true rfl)) dX6_predictRegion_230 ⟨(Nat.zero_le _), (Nat.zero_le _)⟩) hS (fun q _ h => hf9 q h) hf9 (fun u t H locs ht hvm hw hB hz1 hk1 hS => ?_)
              obtain ⟨hP, hK9, hD9⟩ := hB
              rw [ht] at hP
              have hD := hD9.weaken (fun _ q _ h => hf9 q.1 h)
              obtain rfl := Option.some.inj hF
              exact J60 _ _ _ hP hD hS (lv_sub hl [0, 1, 2, 3, 4, 5, 6, 7, 8, 9, 10, 11, 12, 13, 14, 15, 16] rfl)
            clear hF
            have hF := hy63
            clear hy63
            refine lv_if_ne (tgt := 224) hx hb dX6_predictRegion_214 (by decide) (fun c65 => ?_) (fun c65 => ?_)
            · rw [if_neg c65] at hF
              refine lv_aload_n hx hb dX6_predictRegion_224 rfl (lv_at hl 11 rfl) ?_
              refine va_get (D := D) (ci := 6) (v := va_re ad (y59.2 a 2)) (C := RX6) (T := TX6) (N := 14) hx hb hts (mus hf_X6) hown hK hP a (wld_o ct ad G y59 hc hk (by decide)) rfl 2 (by decide) (hts (.fieldLink RX6 18 "VideoSuite$Samples" "second" "[I") (mu mw_537)) (fun _ h9 => h9) rfl dX6_predictRegion_225 ?_
              obtain rfl := Option.some.inj hF
              exact J63 _ _ _ hP hD hS (lv_sub hl [0, 1, 2, 3, 4, 5, 6, 7, 8, 9, 10, 11, 12, 13, 14, 15, 16] rfl)
            · rw [if_pos c65] at hF
              refine lv_aload_n hx hb dX6_predictRegion_217 rfl (lv_at hl 11 rfl) ?_
              refine va_get (D := D) (ci := 6) (v := va_re ad (y59.2 a 1)) (C := RX6) (T := TX6) (N := 14) hx hb hts (mus hf_X6) hown hK hP a (wld_o ct ad G y59 hc hk (by decide)) rfl 1 (by decide) (hts (.fieldLink RX6 15 "VideoSuite$Samples" "first" "[I") (mu mw_536)) (fun _ h9 => h9) rfl dX6_predictRegion_218 ?_
              refine lv_goto (tgt := 228) hx hb dX6_predictRegion_221 (by decide) ?_
              obtain rfl := Option.some.inj hF
              exact J63 _ _ _ hP hD hS (lv_sub hl [0, 1, 2, 3, 4, 5, 6, 7, 8, 9, 10, 11, 12, 13, 14, 15, 16] rfl)
        clear hF
        have hF := hy58
        clear hy58
        refine lv_if_ne (tgt := 187) hx hb dX6_predictRegion_177 (by decide) (fun c66 => ?_) (fun c66 => ?_)
        · rw [if_neg c66] at hF
          refine lv_aload_n hx hb dX6_predictRegion_187 rfl (lv_at hl 11 rfl) ?_
          refine va_get (D := D) (ci := 6) (v := va_re ad (s20.2.2 a 2)) (C := RX6) (T := TX6) (N := 14) hx hb hts (mus hf_X6) hown hK hP a (wld_o ct ad G s20.2 hc hk (by decide)) rfl 2 (by decide) (hts (.fieldLink RX6 18 "VideoSuite$Samples" "second" "[I") (mu mw_537)) (fun _ h9 => h9) rfl dX6_predictRegion_188 ?_
          obtain rfl := Option.some.inj hF
          exact J58 _ _ _ hP hD hS (lv_sub hl [0, 1, 2, 3, 4, 5, 6, 7, 8, 9, 10, 11, 12, 13, 14, 15, 16] rfl)
        · rw [if_pos c66] at hF
          refine lv_aload_n hx hb dX6_predictRegion_180 rfl (lv_at hl 11 rfl) ?_
          refine va_get (D := D) (ci := 6) (v := va_re ad (s20.2.2 a 1)) (C := RX6) (T := TX6) (N := 14) hx hb hts (mus hf_X6) hown hK hP a (wld_o ct ad G s20.2 hc hk (by decide)) rfl 1 (by decide) (hts (.fieldLink RX6 15 "VideoSuite$Samples" "first" "[I") (mu mw_536)) (fun _ h9 => h9) rfl dX6_predictRegion_181 ?_
          refine lv_goto (tgt := 191) hx hb dX6_predictRegion_184 (by decide) ?_
          obtain rfl := Option.some.inj hF
          exact J58 _ _ _ hP hD hS (lv_sub hl [0, 1, 2, 3, 4, 5, 6, 7, 8, 9, 10, 11, 12, 13, 14, 15, 16] rfl)
      · rw [if_pos c47] at hF
        refine lv_goto (tgt := 233) hx hb dX6_predictRegion_127 (by decide) ?_
        obtain rfl := Option.some.inj hF
        exact J45 _ _ _ hP hD hS (lv_sub hl [0, 1, 2, 3, 4, 5, 6, 7, 8, 9, 10, 11, 12, 13, 14] rfl)
    clear hF
    have hF := hy44
    clear hy44
    refine lv_if_lt (tgt := 103) hx hb dX6_predictRegion_93 (by decide) (fun c67 => ?_) (fun c67 => ?_)
    · rw [if_pos c67] at hF
      refine lv_nullq (ad := ad) hx hb dX6_predictRegion_103 ?_
      refine lv_goto (tgt := 120) hx hb dX6_predictRegion_104 (by decide) ?_
      obtain rfl := Option.some.inj hF
      exact J44 _ _ _ hP hD hS (lv_sub hl [0, 1, 2, 3, 4, 5, 6, 7, 8, 9, 10, 11, 12, 13] rfl)
    · rw [if_neg c67] at hF
      refine lv_iload hx hb dX6_predictRegion_96 (lv_at hl 0 rfl) ?_
      refine lv_bipush (v := (8 : Int32)) hx hb dX6_predictRegion_98 (by decide) ?_
      obtain ⟨y68, hy68, hF⟩ := bnd_some hF
      have J68 : ∀ (H : Heap) (locs : List Loc) (ls : Array Slot), va_P D classes (wld ct ad G s20.2) H → va_D A (wld ct ad G s20.2) → va_S A s.heap H locs → lv_has ls 17 [(13, .int x43), (12, .int s20.1), (11, .int x18), (10, .int x14), (9, .int x12), (8, .int x8), (7, .int y2.2), (6, .int y1.2), (0, .ref (ad a)), (1, va_re ad p0), (2, .int p1), (3, .int p2), (4, .int p3), (5, .int p4)] → W p l e (headSpec wuX6_predictRegion ({ frames := 3, cells := 0, slots := 0, locals := 77 })).room s m ([.ref (ad a), va_re ad p0, .int p1, .int p2, .int p3, .int p4] : List Value).toArray below meth c H locs 0 0 (MQ below (va_Qv (fun (_ : Unit) => True) (fun _ t => kE D ct ad G A y t) A) ([.ref (ad a), va_re ad p0, .int p1, .int p2, .int p3, .int p4] : List Value).toArray s 0 0 A) (F0 m 120 ls [va_re ad y68]) := by
        intro H locs ls hP hD hS hl
        obtain rfl := Option.some.inj hF
        exact J44 _ _ _ hP hD hS (lv_sub hl [0, 1, 2, 3, 4, 5, 6, 7, 8, 9, 10, 11, 12, 13] rfl)
      clear hF
      have hF := hy68
      clear hy68
      refine lv_icmp_le (tgt := 107) hx hb dX6_predictRegion_100 (by decide) (fun c69 => ?_) (fun c69 => ?_)
      · rw [if_pos c69] at hF
        refine lv_aloadq_n hx hb dX6_predictRegion_107 rfl (lv_at hl 9 rfl) ?_
        refine W_st (st' := [.ref (ad b3)]) (by rw [va_some ho3]) ?_
        refine va_get (D := D) (ci := 9) (v := va_re ad (s20.2.2 b3 3)) (C := RX9) (T := TX9) (N := 20) hx hb hts (mus hf_X9) hown hK hP b3 (wld_o ct ad G s20.2 hc3 hk3 (by decide)) rfl 3 (by decide) (hts (.fieldLink RX6 87 "VideoSuite$Work" "lists" "[LVideoSuite$Picture;") (mu mw_436)) (fun _ h9 => h9) rfl dX6_predictRegion_108 ?_
        refine lv_bipush (v := (9 : Int32)) hx hb dX6_predictRegion_111 (by decide) ?_
        refine lv_iload hx hb dX6_predictRegion_113 (lv_at hl 1 rfl) ?_
        refine lv_imul hx hb dX6_predictRegion_115 ?_
        obtain ⟨x70, ex70, hF⟩ := ltt_some hF
        refine lv_topi (fun zx70 ezx70 => ?_)
        obtain rfl : x70 = zx70 := ex70.trans ezx70.symm
        refine lv_iload hx hb dX6_predictRegion_116 (lv_at hl 0 rfl) ?_
        refine lv_iadd hx hb dX6_predictRegion_118 ?_
        obtain ⟨x71, ex71, hF⟩ := ltt_some hF
        refine lv_topi (fun zx71 ezx71 => ?_)
        obtain rfl : x71 = zx71 := ex71.trans ezx71.symm
        obtain ⟨b72, ho72, hc72, hk72, hF⟩ := dr_some hF
        refine W_st (st' := [.int x71, .ref (ad b72)]) (by rw [va_some ho72]) ?_
        obtain ⟨hvc, hF⟩ := chk_some hF
        refine ld_q hx hb hK hP hc72 hk72 hvc dX6_predictRegion_119 ?_
        obtain rfl := Option.some.inj hF
        exact J68 _ _ _ hP hD hS (lv_sub hl [0, 1, 2, 3, 4, 5, 6, 7, 8, 9, 10, 11, 12, 13] rfl)
      · rw [if_neg c69] at hF
        refine lv_nullq (ad := ad) hx hb dX6_predictRegion_103 ?_
        refine lv_goto (tgt := 120) hx hb dX6_predictRegion_104 (by decide) ?_
        obtain rfl := Option.some.inj hF
        exact J68 _ _ _ hP hD hS (lv_sub hl [0, 1, 2, 3, 4, 5, 6, 7, 8, 9, 10, 11, 12, 13] rfl)
set_option maxRecDepth 20000 in
theorem gX6_predictSixteen_X6_lumaAt : GoodIn wuX6_predictSixteen (va_wsS RX6 175 yX6_lumaAt wuX6_lumaAt) := gu_S mw_1981 mw_1982 mw_172 mw_1983
set_option maxRecDepth 20000 in
set_option maxRecDepth 20000 in
theorem gX6_predictSixteen_X6_takeSides : GoodIn wuX6_predictSixteen (wsV RX6 195 RX6 yX6_takeSides wuX6_takeSides) := gu_V mw_2056 mw_2058 mw_77 mw_172 mw_2059
set_option maxRecDepth 20000 in
set_option maxRecDepth 20000 in
theorem gX6_predictSixteen_X6_sumAround : GoodIn wuX6_predictSixteen (wsV RX6 203 RX6 yX6_sumAround wuX6_sumAround) := gu_V mw_2068 mw_2070 mw_80 mw_172 mw_2071
set_option maxRecDepth 20000 in
theorem gX6_predictSixteen_X6_fillPlane : GoodIn wuX6_predictSixteen (wsV RX6 199 RX6 yX6_fillPlane wuX6_fillPlane) := gu_V mw_2060 mw_2062 mw_78 mw_172 mw_2063
set_option maxRecDepth 20000 in
theorem dX6_predictSixteen_0 : decode cX6_predictSixteen 0 = .ok (.aload_n 0, 1) := by decide +kernel
theorem dX6_predictSixteen_1 : decode cX6_predictSixteen 1 = .ok (.aload_n 1, 1) := by decide +kernel
theorem dX6_predictSixteen_2 : decode cX6_predictSixteen 2 = .ok (.getfield 46, 3) := by decide +kernel
theorem dX6_predictSixteen_5 : decode cX6_predictSixteen 5 = .ok (.getfield 121, 3) := by decide +kernel
theorem dX6_predictSixteen_8 : decode cX6_predictSixteen 8 = .ok (.iconst 0, 1) := by decide +kernel
theorem dX6_predictSixteen_9 : decode cX6_predictSixteen 9 = .ok (.aaload, 1) := by decide +kernel
theorem dX6_predictSixteen_10 : decode cX6_predictSixteen 10 = .ok (.aload_n 1, 1) := by decide +kernel
theorem dX6_predictSixteen_11 : decode cX6_predictSixteen 11 = .ok (.getfield 46, 3) := by decide +kernel
theorem dX6_predictSixteen_14 : decode cX6_predictSixteen 14 = .ok (.iload_n 2, 1) := by decide +kernel
theorem dX6_predictSixteen_15 : decode cX6_predictSixteen 15 = .ok (.iconst 0, 1) := by decide +kernel
theorem dX6_predictSixteen_16 : decode cX6_predictSixteen 16 = .ok (.iconst 0, 1) := by decide +kernel
theorem dX6_predictSixteen_17 : decode cX6_predictSixteen 17 = .ok (.invokestatic 175, 3) := by decide +kernel
theorem dX6_predictSixteen_20 : decode cX6_predictSixteen 20 = .ok (.bipush 16, 2) := by decide +kernel
theorem dX6_predictSixteen_22 : decode cX6_predictSixteen 22 = .ok (.aload_n 1, 1) := by decide +kernel
theorem dX6_predictSixteen_23 : decode cX6_predictSixteen 23 = .ok (.getfield 46, 3) := by decide +kernel
theorem dX6_predictSixteen_26 : decode cX6_predictSixteen 26 = .ok (.getfield 83, 3) := by decide +kernel
theorem dX6_predictSixteen_29 : decode cX6_predictSixteen 29 = .ok (.imul, 1) := by decide +kernel
theorem dX6_predictSixteen_30 : decode cX6_predictSixteen 30 = .ok (.bipush 16, 2) := by decide +kernel
theorem dX6_predictSixteen_32 : decode cX6_predictSixteen 32 = .ok (.iload 4, 2) := by decide +kernel
theorem dX6_predictSixteen_34 : decode cX6_predictSixteen 34 = .ok (.invokevirtual 195, 3) := by decide +kernel
theorem dX6_predictSixteen_37 : decode cX6_predictSixteen 37 = .ok (.iload_n 3, 1) := by decide +kernel
theorem dX6_predictSixteen_38 : decode cX6_predictSixteen 38 = .ok (.iconst 3, 1) := by decide +kernel
theorem dX6_predictSixteen_39 : decode cX6_predictSixteen 39 = .ok (.if_icmp .ne 12, 3) := by decide +kernel
theorem dX6_predictSixteen_42 : decode cX6_predictSixteen 42 = .ok (.aload_n 0, 1) := by decide +kernel
theorem dX6_predictSixteen_43 : decode cX6_predictSixteen 43 = .ok (.iconst 0, 1) := by decide +kernel
theorem dX6_predictSixteen_44 : decode cX6_predictSixteen 44 = .ok (.bipush 16, 2) := by decide +kernel
theorem dX6_predictSixteen_46 : decode cX6_predictSixteen 46 = .ok (.iconst 5, 1) := by decide +kernel
theorem dX6_predictSixteen_47 : decode cX6_predictSixteen 47 = .ok (.invokevirtual 199, 3) := by decide +kernel
theorem dX6_predictSixteen_50 : decode cX6_predictSixteen 50 = .ok (.return_, 1) := by decide +kernel
theorem dX6_predictSixteen_51 : decode cX6_predictSixteen 51 = .ok (.sipush 128, 3) := by decide +kernel
theorem dX6_predictSixteen_54 : decode cX6_predictSixteen 54 = .ok (.istore 5, 2) := by decide +kernel
theorem dX6_predictSixteen_56 : decode cX6_predictSixteen 56 = .ok (.iload 4, 2) := by decide +kernel
theorem dX6_predictSixteen_58 : decode cX6_predictSixteen 58 = .ok (.iconst 1, 1) := by decide +kernel
theorem dX6_predictSixteen_59 : decode cX6_predictSixteen 59 = .ok (.iand, 1) := by decide +kernel
theorem dX6_predictSixteen_60 : decode cX6_predictSixteen 60 = .ok (.ifCond .eq 7, 3) := by decide +kernel
theorem dX6_predictSixteen_63 : decode cX6_predictSixteen 63 = .ok (.iconst 1, 1) := by decide +kernel
theorem dX6_predictSixteen_64 : decode cX6_predictSixteen 64 = .ok (.goto 4, 3) := by decide +kernel
theorem dX6_predictSixteen_67 : decode cX6_predictSixteen 67 = .ok (.iconst 0, 1) := by decide +kernel
theorem dX6_predictSixteen_68 : decode cX6_predictSixteen 68 = .ok (.istore 6, 2) := by decide +kernel
theorem dX6_predictSixteen_70 : decode cX6_predictSixteen 70 = .ok (.iload 4, 2) := by decide +kernel
theorem dX6_predictSixteen_72 : decode cX6_predictSixteen 72 = .ok (.iconst 2, 1) := by decide +kernel
theorem dX6_predictSixteen_73 : decode cX6_predictSixteen 73 = .ok (.iand, 1) := by decide +kernel
theorem dX6_predictSixteen_74 : decode cX6_predictSixteen 74 = .ok (.ifCond .eq 7, 3) := by decide +kernel
theorem dX6_predictSixteen_77 : decode cX6_predictSixteen 77 = .ok (.iconst 1, 1) := by decide +kernel
theorem dX6_predictSixteen_78 : decode cX6_predictSixteen 78 = .ok (.goto 4, 3) := by decide +kernel
theorem dX6_predictSixteen_81 : decode cX6_predictSixteen 81 = .ok (.iconst 0, 1) := by decide +kernel
theorem dX6_predictSixteen_82 : decode cX6_predictSixteen 82 = .ok (.istore 7, 2) := by decide +kernel
theorem dX6_predictSixteen_84 : decode cX6_predictSixteen 84 = .ok (.aload_n 0, 1) := by decide +kernel
theorem dX6_predictSixteen_85 : decode cX6_predictSixteen 85 = .ok (.iconst 1, 1) := by decide +kernel
theorem dX6_predictSixteen_86 : decode cX6_predictSixteen 86 = .ok (.bipush 16, 2) := by decide +kernel
theorem dX6_predictSixteen_88 : decode cX6_predictSixteen 88 = .ok (.invokevirtual 203, 3) := by decide +kernel
theorem dX6_predictSixteen_91 : decode cX6_predictSixteen 91 = .ok (.aload_n 0, 1) := by decide +kernel
theorem dX6_predictSixteen_92 : decode cX6_predictSixteen 92 = .ok (.bipush 18, 2) := by decide +kernel
theorem dX6_predictSixteen_94 : decode cX6_predictSixteen 94 = .ok (.bipush 16, 2) := by decide +kernel
theorem dX6_predictSixteen_96 : decode cX6_predictSixteen 96 = .ok (.invokevirtual 203, 3) := by decide +kernel
theorem dX6_predictSixteen_99 : decode cX6_predictSixteen 99 = .ok (.iadd, 1) := by decide +kernel
theorem dX6_predictSixteen_100 : decode cX6_predictSixteen 100 = .ok (.istore 8, 2) := by decide +kernel
theorem dX6_predictSixteen_102 : decode cX6_predictSixteen 102 = .ok (.iload 6, 2) := by decide +kernel
theorem dX6_predictSixteen_104 : decode cX6_predictSixteen 104 = .ok (.ifCond .ne 8, 3) := by decide +kernel
theorem dX6_predictSixteen_107 : decode cX6_predictSixteen 107 = .ok (.iload 7, 2) := by decide +kernel
theorem dX6_predictSixteen_109 : decode cX6_predictSixteen 109 = .ok (.ifCond .eq 32, 3) := by decide +kernel
theorem dX6_predictSixteen_112 : decode cX6_predictSixteen 112 = .ok (.iload 6, 2) := by decide +kernel
theorem dX6_predictSixteen_114 : decode cX6_predictSixteen 114 = .ok (.ifCond .eq 18, 3) := by decide +kernel
theorem dX6_predictSixteen_117 : decode cX6_predictSixteen 117 = .ok (.iload 7, 2) := by decide +kernel
theorem dX6_predictSixteen_119 : decode cX6_predictSixteen 119 = .ok (.ifCond .eq 13, 3) := by decide +kernel
theorem dX6_predictSixteen_122 : decode cX6_predictSixteen 122 = .ok (.iload 8, 2) := by decide +kernel
theorem dX6_predictSixteen_124 : decode cX6_predictSixteen 124 = .ok (.bipush 16, 2) := by decide +kernel
theorem dX6_predictSixteen_126 : decode cX6_predictSixteen 126 = .ok (.iadd, 1) := by decide +kernel
theorem dX6_predictSixteen_127 : decode cX6_predictSixteen 127 = .ok (.iconst 5, 1) := by decide +kernel
theorem dX6_predictSixteen_128 : decode cX6_predictSixteen 128 = .ok (.ishr, 1) := by decide +kernel
theorem dX6_predictSixteen_129 : decode cX6_predictSixteen 129 = .ok (.goto 10, 3) := by decide +kernel
theorem dX6_predictSixteen_132 : decode cX6_predictSixteen 132 = .ok (.iload 8, 2) := by decide +kernel
theorem dX6_predictSixteen_134 : decode cX6_predictSixteen 134 = .ok (.bipush 8, 2) := by decide +kernel
theorem dX6_predictSixteen_136 : decode cX6_predictSixteen 136 = .ok (.iadd, 1) := by decide +kernel
theorem dX6_predictSixteen_137 : decode cX6_predictSixteen 137 = .ok (.iconst 4, 1) := by decide +kernel
theorem dX6_predictSixteen_138 : decode cX6_predictSixteen 138 = .ok (.ishr, 1) := by decide +kernel
theorem dX6_predictSixteen_139 : decode cX6_predictSixteen 139 = .ok (.istore 5, 2) := by decide +kernel
theorem dX6_predictSixteen_141 : decode cX6_predictSixteen 141 = .ok (.iconst 0, 1) := by decide +kernel
theorem dX6_predictSixteen_142 : decode cX6_predictSixteen 142 = .ok (.istore 9, 2) := by decide +kernel
theorem dX6_predictSixteen_144 : decode cX6_predictSixteen 144 = .ok (.iload 9, 2) := by decide +kernel
theorem dX6_predictSixteen_146 : decode cX6_predictSixteen 146 = .ok (.sipush 256, 3) := by decide +kernel
theorem dX6_predictSixteen_149 : decode cX6_predictSixteen 149 = .ok (.if_icmp .ge 58, 3) := by decide +kernel
theorem dX6_predictSixteen_152 : decode cX6_predictSixteen 152 = .ok (.aload_n 0, 1) := by decide +kernel
theorem dX6_predictSixteen_153 : decode cX6_predictSixteen 153 = .ok (.getfield 9, 3) := by decide +kernel
theorem dX6_predictSixteen_156 : decode cX6_predictSixteen 156 = .ok (.iload 9, 2) := by decide +kernel
theorem dX6_predictSixteen_158 : decode cX6_predictSixteen 158 = .ok (.iload_n 3, 1) := by decide +kernel
theorem dX6_predictSixteen_159 : decode cX6_predictSixteen 159 = .ok (.ifCond .ne 18, 3) := by decide +kernel
theorem dX6_predictSixteen_162 : decode cX6_predictSixteen 162 = .ok (.aload_n 0, 1) := by decide +kernel
theorem dX6_predictSixteen_163 : decode cX6_predictSixteen 163 = .ok (.getfield 36, 3) := by decide +kernel
theorem dX6_predictSixteen_166 : decode cX6_predictSixteen 166 = .ok (.iconst 1, 1) := by decide +kernel
theorem dX6_predictSixteen_167 : decode cX6_predictSixteen 167 = .ok (.iload 9, 2) := by decide +kernel
theorem dX6_predictSixteen_169 : decode cX6_predictSixteen 169 = .ok (.bipush 16, 2) := by decide +kernel
theorem dX6_predictSixteen_171 : decode cX6_predictSixteen 171 = .ok (.irem, 1) := by decide +kernel
theorem dX6_predictSixteen_172 : decode cX6_predictSixteen 172 = .ok (.iadd, 1) := by decide +kernel
theorem dX6_predictSixteen_173 : decode cX6_predictSixteen 173 = .ok (.iaload, 1) := by decide +kernel
theorem dX6_predictSixteen_174 : decode cX6_predictSixteen 174 = .ok (.goto 26, 3) := by decide +kernel
theorem dX6_predictSixteen_177 : decode cX6_predictSixteen 177 = .ok (.iload_n 3, 1) := by decide +kernel
theorem dX6_predictSixteen_178 : decode cX6_predictSixteen 178 = .ok (.iconst 1, 1) := by decide +kernel
theorem dX6_predictSixteen_179 : decode cX6_predictSixteen 179 = .ok (.if_icmp .ne 19, 3) := by decide +kernel
theorem dX6_predictSixteen_182 : decode cX6_predictSixteen 182 = .ok (.aload_n 0, 1) := by decide +kernel
theorem dX6_predictSixteen_183 : decode cX6_predictSixteen 183 = .ok (.getfield 36, 3) := by decide +kernel
theorem dX6_predictSixteen_186 : decode cX6_predictSixteen 186 = .ok (.bipush 18, 2) := by decide +kernel
theorem dX6_predictSixteen_188 : decode cX6_predictSixteen 188 = .ok (.iload 9, 2) := by decide +kernel
theorem dX6_predictSixteen_190 : decode cX6_predictSixteen 190 = .ok (.bipush 16, 2) := by decide +kernel
theorem dX6_predictSixteen_192 : decode cX6_predictSixteen 192 = .ok (.idiv, 1) := by decide +kernel
theorem dX6_predictSixteen_193 : decode cX6_predictSixteen 193 = .ok (.iadd, 1) := by decide +kernel
theorem dX6_predictSixteen_194 : decode cX6_predictSixteen 194 = .ok (.iaload, 1) := by decide +kernel
theorem dX6_predictSixteen_195 : decode cX6_predictSixteen 195 = .ok (.goto 5, 3) := by decide +kernel
theorem dX6_predictSixteen_198 : decode cX6_predictSixteen 198 = .ok (.iload 5, 2) := by decide +kernel
theorem dX6_predictSixteen_200 : decode cX6_predictSixteen 200 = .ok (.iastore, 1) := by decide +kernel
theorem dX6_predictSixteen_201 : decode cX6_predictSixteen 201 = .ok (.iinc 9 1, 3) := by decide +kernel
theorem dX6_predictSixteen_204 : decode cX6_predictSixteen 204 = .ok (.goto (-60), 3) := by decide +kernel
theorem dX6_predictSixteen_207 : decode cX6_predictSixteen 207 = .ok (.return_, 1) := by decide +kernel
def FX6_predictSixteen (G : GG) (M : DD) (a : Nat) (p0 : Option Nat) (p1 : Int32) (p2 : Int32) (p3 : Int32) : Option (DD) :=
  dr G 9 p0 fun b2 =>
  dr G 4 ((M.2 b2 0)) fun b3 =>
  dr G 15 ((M.2 b3 4)) fun b4 =>
  chk (¬ (((0 : Int32)) < 0 ∨ G.2.2 b4 ≤ ((0 : Int32)).toNatClampNeg)) <|
  bnd (FX6_lumaAt G M ((M.2 b2 0)) p1 ((0 : Int32)) ((0 : Int32))) fun y5 =>
  dr G 4 ((y5.1.2 b2 0)) fun b6 =>
  ltt (y5.1.1 b6 1) fun x7 =>
  ltt ((((16 : Int32)) * x7)) fun x8 =>
  bnd (FX6_takeSides G y5.1 a ((M.2 b4 ((0 : Int32)).toNatClampNeg)) y5.2 x8 ((16 : Int32)) p3) fun y9 =>
  if p2 = ((3 : Int32)) then (bnd (FX6_fillPlane G y9 a ((0 : Int32)) ((16 : Int32)) ((5 : Int32))) fun y64 =>
  some y64) else
  (ltt ((p3 &&& ((1 : Int32)))) fun x11 =>
  bnd (if x11 = ((0 : Int32)) then (some ((0 : Int32))) else
  (some ((1 : Int32)))) fun (y12 : Int32) =>
  ltt ((p3 &&& ((2 : Int32)))) fun x13 =>
  bnd (if x13 = ((0 : Int32)) then (some ((0 : Int32))) else
  (some ((1 : Int32)))) fun (y14 : Int32) =>
  bnd (FX6_sumAround G y9 a ((1 : Int32)) ((16 : Int32))) fun y15 =>
  bnd (FX6_sumAround G y15.1 a ((18 : Int32)) ((16 : Int32))) fun y16 =>
  ltt ((y15.2 + y16.2)) fun x17 =>
  bnd (if y12 = ((0 : Int32)) then (bnd (if y14 = ((0 : Int32)) then (some ((128 : Int32))) else
  (bnd (if y12 = ((0 : Int32)) then (ltt ((x17 + ((8 : Int32)))) fun x54 =>
  ltt ((x54 >>> (((4 : Int32)) &&& 31))) fun x55 =>
  some (x55)) else
  (bnd (if y14 = ((0 : Int32)) then (ltt ((x17 + ((8 : Int32)))) fun x58 =>
  ltt ((x58 >>> (((4 : Int32)) &&& 31))) fun x59 =>
  some (x59)) else
  (ltt ((x17 + ((16 : Int32)))) fun x60 =>
  ltt ((x60 >>> (((5 : Int32)) &&& 31))) fun x61 =>
  some (x61))) fun (y56 : Int32) =>
  some (y56))) fun (y52 : Int32) =>
  some (y52))) fun (y50 : Int32) =>
  some (y50)) else
  (bnd (if y12 = ((0 : Int32)) then (ltt ((x17 + ((8 : Int32)))) fun x42 =>
  ltt ((x42 >>> (((4 : Int32)) &&& 31))) fun x43 =>
  some (x43)) else
  (bnd (if y14 = ((0 : Int32)) then (ltt ((x17 + ((8 : Int32)))) fun x46 =>
  ltt ((x46 >>> (((4 : Int32)) &&& 31))) fun x47 =>
  some (x47)) else
  (ltt ((x17 + ((16 : Int32)))) fun x48 =>
  ltt ((x48 >>> (((5 : Int32)) &&& 31))) fun x49 =>
  some (x49))) fun (y44 : Int32) =>
  some (y44))) fun (y40 : Int32) =>
  some (y40))) fun (y18 : Int32) =>
  bnd (itr (fun (s20 : Int32 × DD) => ((if ((256 : Int32)) ≤ s20.1 then (some (.inr (s20.1, s20.2))) else
  (bnd (if p2 = ((0 : Int32)) then (ltt (s20.1 - s20.1 / ((16 : Int32)) * ((16 : Int32))) fun x35 =>
  ltt ((((1 : Int32)) + x35)) fun x36 =>
  dr G 13 ((s20.2.2 a 8)) fun b37 =>
  chk (¬ (x36 < 0 ∨ G.2.2 b37 ≤ x36.toNatClampNeg)) <|
  ltt (s20.2.1 b37 x36.toNatClampNeg) fun x38 =>
  some (x38)) else
  (bnd (if p2 = ((1 : Int32)) then (ltt (s20.1 / ((16 : Int32))) fun x31 =>
  ltt ((((18 : Int32)) + x31)) fun x32 =>
  dr G 13 ((s20.2.2 a 8)) fun b33 =>
  chk (¬ (x32 < 0 ∨ G.2.2 b33 ≤ x32.toNatClampNeg)) <|
  ltt (s20.2.1 b33 x32.toNatClampNeg) fun x34 =>
  some (x34)) else
  (some (y18))) fun (y29 : Int32) =>
  some (y29))) fun (y24 : Int32) =>
  dr G 13 ((s20.2.2 a 0)) fun b25 =>
  chk (¬ (s20.1 < 0 ∨ G.2.2 b25 ≤ s20.1.toNatClampNeg)) <|
  ltt (uI s20.2 b25 s20.1.toNatClampNeg y24) fun M26 =>
  ltt (s20.1 + (1 : Int32)) fun x27 =>
  some (.inl (x27, M26)))) : Option ((Int32 × DD) ⊕ (Int32 × DD)))) 1000000 ((0 : Int32), y16.1)) fun (y19 : Int32 × DD) =>
  some y19.2)
set_option maxHeartbeats 4000000 in
set_option maxRecDepth 100000 in
theorem kX6_predictSixteen (l : Launch) (D : va_G) (ct : CT) (ad : Nat → Nat) (Z : Nat → Nat) (G : GG) (M : DD) (sz : Nat) (a : Nat) (p0 : Option Nat) (p1 : Int32) (p2 : Int32) (p3 : Int32) (y : DD) (hc : a < G.1) (hk : G.2.1 a = 6) (hF : FX6_predictSixteen G M a p0 p1 p2 p3 = some y) : Met l yX6_predictSixteen wuX6_predictSixteen ({ frames := 1, cells := 0, slots := 0, locals := 33 }) (va_Pc [.ref (ad a), va_re ad p0, .int p1, .int p2, .int p3] (kB D ct ad Z G M sz)) (va_Qv (fun (_ : Unit) => True) (fun _ t => kE D ct ad G (wA ad G sz) y t) (wA ad G sz)) 0 0 (wA ad G sz) := by
  refine Met.ofW (cc := cX6_predictSixteen) (maxL := 10) (ret := none) (by decide) rfl ?_
  intro p e s m args below meth c s₁ B hml hv
  obtain ⟨rfl, hsz, hP, hK, hD0, hZ, hN⟩ := hv
  have hx := B.exec
  have hb := B.bytes
  have hr := B.returns
  have hts := atoms_spec (ws := wuX6_predictSixteen) B.pre
  have hown : s.vm.findClass RX6 = some m.cls := findClass_of_methodNamed B.named
  have hlocks := B.notSynchronized
  subst hsz
  have hD := wD_self (sz := s.heap.size) hD0
  have hA9 : ∀ q, s.heap.size ≤ q → wA ad G s.heap.size q := fun q h => Or.inr h
  generalize hAe : wA ad G s.heap.size = A at hD hA9 hZ ⊢
  have hS : va_S A s.heap s.heap [] := va_S.rf
  have hl := lv_entry ([.ref (ad a), va_re ad p0, .int p1, .int p2, .int p3]) (n := 10) (by cases p0 <;> exact Nat.le_of_ble_eq_true rfl)
  rw [lg_entry_eq]
  generalize (lg_sl ([.ref (ad a), va_re ad p0, .int p1, .int p2, .int p3]) ++ List.replicate (10 - (lg_sl ([.ref (ad a), va_re ad p0, .int p1, .int p2, .int p3])).length) Slot.unset).toArray = ls at hl ⊢
  have hl : lv_has ls 10 [(0, .ref (ad a)), (1, va_re ad p0), (2, .int p1), (3, .int p2), (4, .int p3)] := by have e9 : lv_args 0 [.ref (ad a), va_re ad p0, .int p1, .int p2, .int p3] = [(0, .ref (ad a)), (1, va_re ad p0), (2, .int p1), (3, .int p2), (4, .int p3)] := (by cases p0 <;> rfl); rw [e9] at hl; exact hl
  unfold FX6_predictSixteen at hF
  refine lv_aload_n hx hb dX6_predictSixteen_0 rfl (lv_at hl 0 rfl) ?_
  refine lv_aloadq_n hx hb dX6_predictSixteen_1 rfl (lv_at hl 1 rfl) ?_
  obtain ⟨b2, ho2, hc2, hk2, hF⟩ := dr_some hF
  refine W_st (st' := [.ref (ad b2), .ref (ad a)]) (by rw [va_some ho2]) ?_
  refine va_get (D := D) (ci := 9) (v := va_re ad (M.2 b2 0)) (C := RX9) (T := TX9) (N := 20) hx hb hts (mus hf_X9) hown hK hP b2 (wld_o ct ad G M hc2 hk2 (by decide)) rfl 0 (by decide) (hts (.fieldLink RX6 46 "VideoSuite$Work" "pic" "LVideoSuite$Picture;") (mu mw_421)) (fun _ h9 => h9) rfl dX6_predictSixteen_2 ?_
  obtain ⟨b3, ho3, hc3, hk3, hF⟩ := dr_some hF
  refine W_st (st' := [.ref (ad b3), .ref (ad a)]) (by rw [va_some ho3]) ?_
  refine va_get (D := D) (ci := 4) (v := va_re ad (M.2 b3 4)) (C := RX4) (T := TX4) (N := 18) hx hb hts (mus hf_X4) hown hK hP b3 (wld_o ct ad G M hc3 hk3 (by decide)) rfl 4 (by decide) (hts (.fieldLink RX6 121 "VideoSuite$Picture" "plane" "[[I") (mu mw_1433)) (fun _ h9 => h9) rfl dX6_predictSixteen_5 ?_
  refine lv_iconst (v := (0 : Int32)) hx hb dX6_predictSixteen_8 (by decide) ?_
  obtain ⟨b4, ho4, hc4, hk4, hF⟩ := dr_some hF
  refine W_st (st' := [.int (0 : Int32), .ref (ad b4), .ref (ad a)]) (by rw [va_some ho4]) ?_
  obtain ⟨hvc, hF⟩ := chk_some hF
  refine ld_g hx hb hK hP hc4 hk4 hvc dX6_predictSixteen_9 ?_
  refine lv_aloadq_n hx hb dX6_predictSixteen_10 rfl (lv_at hl 1 rfl) ?_
  refine W_st (st' := [.ref (ad b2), va_re ad (M.2 b4 ((0 : Int32)).toNatClampNeg), .ref (ad a)]) (by rw [va_some ho2]) ?_
  refine va_get (D := D) (ci := 9) (v := va_re ad (M.2 b2 0)) (C := RX9) (T := TX9) (N := 20) hx hb hts (mus hf_X9) hown hK hP b2 (wld_o ct ad G M hc2 hk2 (by decide)) rfl 0 (by decide) (hts (.fieldLink RX6 46 "VideoSuite$Work" "pic" "LVideoSuite$Picture;") (mu mw_421)) (fun _ h9 => h9) rfl dX6_predictSixteen_11 ?_
  refine lv_iload_n hx hb dX6_predictSixteen_14 rfl (lv_at hl 2 rfl) ?_
  refine lv_iconst (v := (0 : Int32)) hx hb dX6_predictSixteen_15 (by decide) ?_
  refine lv_iconst (v := (0 : Int32)) hx hb dX6_predictSixteen_16 (by decide) ?_
  obtain ⟨y5, hy5, hF⟩ := bnd_some hF
  have hf9 := wA_in hD hA9 hS
  refine va_calli (va_runS (As := [va_re ad (M.2 b2 0), .int p1, .int (0 : Int32), .int (0 : Int32)]) (rest := [va_re ad (M.2 b4 ((0 : Int32)).toNatClampNeg), .ref (ad a)]) ⟨hx, hb, hml, hown, hts⟩ (kX6_lumaAt l D ct ad Z G M s.heap.size ((M.2 b2 0)) p1 ((0 : Int32)) ((0 : Int32)) y5 hy5) (va_cwS 4 hts gX6_predictSixteen_X6_lumaAt rfl rfl rfl (by decide +kernel) ⟨Nat.le_of_ble_eq_true rfl, Nat.le_of_ble_eq_true rfl⟩) ⟨fun a U g mk q => by obtain ⟨q0, q1, qP, qK, qD, qZ, qN⟩ := q; exact ⟨q0, q1, qP, va_K.moved (u := U) (U := U.calling g mk a) (Vm.Alike.refl U.vm) qK, qD, sF.moved (u := U) (U := U.calling g mk a) (Vm.Alike.refl U.vm) qZ, nF.same rfl qN⟩, fun U hU hW => ⟨rfl, by rw [hU], by rw [hU]; exact hP, va_K.moved hW.alike hK, hD.weaken (fun _ _ _ _ => trivial), by rw [hU]; exact ((hZ.kept hS.2.1).narrow hf9).moved hW.alike, hN.warm hW⟩⟩ rfl rfl hl.1 rfl (lv_room (by simp only [List.map, va_re_cat]; exact Nat.le_of_ble_eq_true rfl)) dX6_predictSixteen_17 ⟨(Nat.zero_le _), (Nat.zero_le _)⟩) hS (fun q _ h => hf9 q h) hf9 (fun r u t H locs ht hvm hw hB hz1 hk1 hS => ?_)
  obtain ⟨hP, hK9, hD9⟩ := hB
  rw [ht] at hP
  try dsimp only at hw
  subst hw
  have hD := hD9.weaken (fun _ q _ h => hf9 q.1 h)
  refine lv_bipush (v := (16 : Int32)) hx hb dX6_predictSixteen_20 (by decide) ?_
  refine lv_aloadq_n hx hb dX6_predictSixteen_22 rfl (lv_at hl 1 rfl) ?_
  refine W_st (st' := [.ref (ad b2), .int (16 : Int32), .int y5.2, va_re ad (M.2 b4 ((0 : Int32)).toNatClampNeg), .ref (ad a)]) (by rw [va_some ho2]) ?_
  refine va_get (D := D) (ci := 9) (v := va_re ad (y5.1.2 b2 0)) (C := RX9) (T := TX9) (N := 20) hx hb hts (mus hf_X9) hown hK hP b2 (wld_o ct ad G y5.1 hc2 hk2 (by decide)) rfl 0 (by decide) (hts (.fieldLink RX6 46 "VideoSuite$Work" "pic" "LVideoSuite$Picture;") (mu mw_421)) (fun _ h9 => h9) rfl dX6_predictSixteen_23 ?_
  obtain ⟨b6, ho6, hc6, hk6, hF⟩ := dr_some hF
  refine W_st (st' := [.ref (ad b6), .int (16 : Int32), .int y5.2, va_re ad (M.2 b4 ((0 : Int32)).toNatClampNeg), .ref (ad a)]) (by rw [va_some ho6]) ?_
  refine va_get (D := D) (ci := 4) (v := .int (y5.1.1 b6 1)) (C := RX4) (T := TX4) (N := 18) hx hb hts (mus hf_X4) hown hK hP b6 (wld_o ct ad G y5.1 hc6 hk6 (by decide)) rfl 1 (by decide) (hts (.fieldLink RX6 83 "VideoSuite$Picture" "width" "I") (mu mw_1422)) (fun _ h9 => h9) rfl dX6_predictSixteen_26 ?_
  obtain ⟨x7, ex7, hF⟩ := ltt_some hF
  refine lv_topi (fun zx7 ezx7 => ?_)
  obtain rfl : x7 = zx7 := ex7.trans ezx7.symm
  refine lv_imul hx hb dX6_predictSixteen_29 ?_
  obtain ⟨x8, ex8, hF⟩ := ltt_some hF
  refine lv_topi (fun zx8 ezx8 => ?_)
  obtain rfl : x8 = zx8 := ex8.trans ezx8.symm
  refine lv_bipush (v := (16 : Int32)) hx hb dX6_predictSixteen_30 (by decide) ?_
  refine lv_iload hx hb dX6_predictSixteen_32 (lv_at hl 4 rfl) ?_
  obtain ⟨y9, hy9, hF⟩ := bnd_some hF
  have hf9 := wA_in hD hA9 hS
  refine va_callv (va_runV (As := [va_re ad (M.2 b4 ((0 : Int32)).toNatClampNeg), .int y5.2, .int x8, .int (16 : Int32), .int p3]) (rest := []) ⟨hx, hb, hml, hown, hts⟩ (kX6_takeSides l D ct ad Z G y5.1 H.size a ((M.2 b4 ((0 : Int32)).toNatClampNeg)) y5.2 x8 ((16 : Int32)) p3 y9 hc hk hy9) (cwV 5 hts gX6_predictSixteen_X6_takeSides rfl rfl rfl (by decide +kernel) ⟨Nat.le_of_ble_eq_true rfl, Nat.le_of_ble_eq_true rfl⟩) ⟨fun a U g mk q => by obtain ⟨q0, q1, qP, qK, qD, qZ, qN⟩ := q; exact ⟨q0, q1, qP, va_K.moved (u := U) (U := U.calling g mk a) (Vm.Alike.refl U.vm) qK, qD, sF.moved (u := U) (U := U.calling g mk a) (Vm.Alike.refl U.vm) qZ, nF.same rfl qN⟩, va_recv hK hP (ci := 6) (q0 := a) rfl (wld_o ct ad G y5.1 hc hk (by decide)), fun U hU hW => ⟨rfl, by rw [hU], by rw [hU]; exact hP, va_K.moved hW.alike hK, hD.weaken (fun _ _ _ _ => trivial), by rw [hU]; exact ((hZ.kept hS.2.1).narrow hf9).moved hW.alike, hN.warm hW⟩⟩ rfl rfl hl.1 rfl (lv_room (Nat.le_of_ble_eq_true rfl)) dX6_predictSixteen_34 ⟨(Nat.zero_le _), (Nat.zero_le _)⟩) hS (fun q _ h => hf9 q h) hf9 (fun u t H locs ht hvm hw hB hz1 hk1 hS => ?_)
  obtain ⟨hP, hK9, hD9⟩ := hB
  rw [ht] at hP
  have hD := hD9.weaken (fun _ q _ h => hf9 q.1 h)
  refine lv_iload_n hx hb dX6_predictSixteen_37 rfl (lv_at hl 3 rfl) ?_
  refine lv_iconst (v := (3 : Int32)) hx hb dX6_predictSixteen_38 (by decide) ?_
  refine lv_icmp_ne (tgt := 51) hx hb dX6_predictSixteen_39 (by decide) (fun c10 => ?_) (fun c10 => ?_)
  · rw [if_neg c10] at hF
    refine lv_sipush (v := (128 : Int32)) hx hb dX6_predictSixteen_51 (by decide) ?_
    refine lv_istore (lv' := [(5, .int (128 : Int32)), (0, .ref (ad a)), (1, va_re ad p0), (2, .int p1), (3, .int p2), (4, .int p3)]) hx hb dX6_predictSixteen_54 hl (by decide) rfl (fun ls hl => ?_)
    refine lv_iload hx hb dX6_predictSixteen_56 (lv_at hl 5 rfl) ?_
    refine lv_iconst (v := (1 : Int32)) hx hb dX6_predictSixteen_58 (by decide) ?_
    refine lv_iand hx hb dX6_predictSixteen_59 ?_
    obtain ⟨x11, ex11, hF⟩ := ltt_some hF
    refine lv_topi (fun zx11 ezx11 => ?_)
    obtain rfl : x11 = zx11 := ex11.trans ezx11.symm
    obtain ⟨y12, hy12, hF⟩ := bnd_some hF
    have J12 : ∀ (H : Heap) (locs : List Loc) (ls : Array Slot), va_P D classes (wld ct ad G y9) H → va_D A (wld ct ad G y9) → va_S A s.heap H locs → lv_has ls 10 [(5, .int (128 : Int32)), (0, .ref (ad a)), (1, va_re ad p0), (2, .int p1), (3, .int p2), (4, .int p3)] → W p l e (headSpec wuX6_predictSixteen ({ frames := 1, cells := 0, slots := 0, locals := 33 })).room s m ([.ref (ad a), va_re ad p0, .int p1, .int p2, .int p3] : List Value).toArray below meth c H locs 0 0 (MQ below (va_Qv (fun (_ : Unit) => True) (fun _ t => kE D ct ad G A y t) A) ([.ref (ad a), va_re ad p0, .int p1, .int p2, .int p3] : List Value).toArray s 0 0 A) (F0 m 68 ls [.int y12]) := by
      intro H locs ls hP hD hS hl
      refine lv_istore (lv' := [(6, .int y12), (5, .int (128 : Int32)), (0, .ref (ad a)), (1, va_re ad p0), (2, .int p1), (3, .int p2), (4, .int p3)]) hx hb dX6_predictSixteen_68 hl (by decide) rfl (fun ls hl => ?_)
      refine lv_iload hx hb dX6_predictSixteen_70 (lv_at hl 6 rfl) ?_
      refine lv_iconst (v := (2 : Int32)) hx hb dX6_predictSixteen_72 (by decide) ?_
      refine lv_iand hx hb dX6_predictSixteen_73 ?_
      obtain ⟨x13, ex13, hF⟩ := ltt_some hF
      refine lv_topi (fun zx13 ezx13 => ?_)
      obtain rfl : x13 = zx13 := ex13.trans ezx13.symm
      obtain ⟨y14, hy14, hF⟩ := bnd_some hF
      have J14 : ∀ (H : Heap) (locs : List Loc) (ls : Array Slot), va_P D classes (wld ct ad G y9) H → va_D A (wld ct ad G y9) → va_S A s.heap H locs → lv_has ls 10 [(6, .int y12), (5, .int (128 : Int32)), (0, .ref (ad a)), (1, va_re ad p0), (2, .int p1), (3, .int p2), (4, .int p3)] → W p l e (headSpec wuX6_predictSixteen ({ frames := 1, cells := 0, slots := 0, locals := 33 })).room s m ([.ref (ad a), va_re ad p0, .int p1, .int p2, .int p3] : List Value).toArray below meth c H locs 0 0 (MQ below (va_Qv (fun (_ : Unit) => True) (fun _ t => kE D ct ad G A y t) A) ([.ref (ad a), va_re ad p0, .int p1, .int p2, .int p3] : List Value).toArray s 0 0 A) (F0 m 82 ls [.int y14]) := by
        intro H locs ls hP hD hS hl
        refine lv_istore (lv' := [(7, .int y14), (6, .int y12), (5, .int (128 : Int32)), (0, .ref (ad a)), (1, va_re ad p0), (2, .int p1), (3, .int p2), (4, .int p3)]) hx hb dX6_predictSixteen_82 hl (by decide) rfl (fun ls hl => ?_)
        refine lv_aload_n hx hb dX6_predictSixteen_84 rfl (lv_at hl 3 rfl) ?_
        refine lv_iconst (v := (1 : Int32)) hx hb dX6_predictSixteen_85 (by decide) ?_
        refine lv_bipush (v := (16 : Int32)) hx hb dX6_predictSixteen_86 (by decide) ?_
        obtain ⟨y15, hy15, hF⟩ := bnd_some hF
        have hf9 := wA_in hD hA9 hS
        refine va_calli (va_runV (As := [.int (1 : Int32), .int (16 : Int32)]) (rest := []) ⟨hx, hb, hml, hown, hts⟩ (kX6_sumAround l D ct ad Z G y9 H.size a ((1 : Int32)) ((16 : Int32)) y15 hc hk hy15) (cwV 2 hts gX6_predictSixteen_X6_sumAround rfl rfl rfl (by decide +kernel) ⟨Nat.le_of_ble_eq_true rfl, Nat.le_of_ble_eq_true rfl⟩) ⟨fun a U g mk q => by obtain ⟨q0, q1, qP, qK, qD, qZ, qN⟩ := q; exact ⟨q0, q1, qP, va_K.moved (u := U) (U := U.calling g mk a) (Vm.Alike.refl U.vm) qK, qD, sF.moved (u := U) (U := U.calling g mk a) (Vm.Alike.refl U.vm) qZ, nF.same rfl qN⟩, va_recv hK hP (ci := 6) (q0 := a) rfl (wld_o ct ad G y9 hc hk (by decide)), fun U hU hW => ⟨rfl, by rw [hU], by rw [hU]; exact hP, va_K.moved hW.alike hK, hD.weaken (fun _ _ _ _ => trivial), by rw [hU]; exact ((hZ.kept hS.2.1).narrow hf9).moved hW.alike, hN.warm hW⟩⟩ rfl rfl hl.1 rfl (lv_room (Nat.le_of_ble_eq_true rfl)) dX6_predictSixteen_88 ⟨(Nat.zero_le _), (Nat.zero_le _)⟩) hS (fun q _ h => hf9 q h) hf9 (fun r u t H locs ht hvm hw hB hz1 hk1 hS => ?_)
        obtain ⟨hP, hK9, hD9⟩ := hB
        rw [ht] at hP
        try dsimp only at hw
        subst hw
        have hD := hD9.weaken (fun _ q _ h => hf9 q.1 h)
        refine lv_aload_n hx hb dX6_predictSixteen_91 rfl (lv_at hl 3 rfl) ?_
        refine lv_bipush (v := (18 : Int32)) hx hb dX6_predictSixteen_92 (by decide) ?_
        refine lv_bipush (v := (16 : Int32)) hx hb dX6_predictSixteen_94 (by decide) ?_
        obtain ⟨y16, hy16, hF⟩ := bnd_some hF
        have hf9 := wA_in hD hA9 hS
        refine va_calli (va_runV (As := [.int (18 : Int32), .int (16 : Int32)]) (rest := [.int y15.2]) ⟨hx, hb, hml, hown, hts⟩ (kX6_sumAround l D ct ad Z G y15.1 H.size a ((18 : Int32)) ((16 : Int32)) y16 hc hk hy16) (cwV 2 hts gX6_predictSixteen_X6_sumAround rfl rfl rfl (by decide +kernel) ⟨Nat.le_of_ble_eq_true rfl, Nat.le_of_ble_eq_true rfl⟩) ⟨fun a U g mk q => by obtain ⟨q0, q1, qP, qK, qD, qZ, qN⟩ := q; exact ⟨q0, q1, qP, va_K.moved (u := U) (U := U.calling g mk a) (Vm.Alike.refl U.vm) qK, qD, sF.moved (u := U) (U := U.calling g mk a) (Vm.Alike.refl U.vm) qZ, nF.same rfl qN⟩, va_recv hK hP (ci := 6) (q0 := a) rfl (wld_o ct ad G y15.1 hc hk (by decide)), fun U hU hW => ⟨rfl, by rw [hU], by rw [hU]; exact hP, va_K.moved hW.alike hK, hD.weaken (fun _ _ _ _ => trivial), by rw [hU]; exact ((hZ.kept hS.2.1).narrow hf9).moved hW.alike, hN.warm hW⟩⟩ rfl rfl hl.1 rfl (lv_room (Nat.le_of_ble_eq_true rfl)) dX6_predictSixteen_96 ⟨(Nat.zero_le _), (Nat.zero_le _)⟩) hS (fun q _ h => hf9 q h) hf9 (fun r u t H locs ht hvm hw hB hz1 hk1 hS => ?_)
        obtain ⟨hP, hK9, hD9⟩ := hB
        rw [ht] at hP
        try dsimp only at hw
        subst hw
        have hD := hD9.weaken (fun _ q _ h => hf9 q.1 h)
        refine lv_iadd hx hb dX6_predictSixteen_99 ?_
        obtain ⟨x17, ex17, hF⟩ := ltt_some hF
        refine lv_topi (fun zx17 ezx17 => ?_)
        obtain rfl : x17 = zx17 := ex17.trans ezx17.symm
        refine lv_istore (lv' := [(8, .int x17), (7, .int y14), (6, .int y12), (5, .int (128 : Int32)), (0, .ref (ad a)), (1, va_re ad p0), (2, .int p1), (3, .int p2), (4, .int p3)]) hx hb dX6_predictSixteen_100 hl (by decide) rfl (fun ls hl => ?_)
        refine lv_iload hx hb dX6_predictSixteen_102 (lv_at hl 2 rfl) ?_
        obtain ⟨y18, hy18, hF⟩ := bnd_some hF
        have J18 : ∀ (H : Heap) (locs : List Loc) (ls : Array Slot), va_P D classes (wld ct ad G y16.1) H → va_D A (wld ct ad G y16.1) → va_S A s.heap H locs → lv_has ls 10 [(8, .int x17), (7, .int y14), (6, .int y12), (5, .int y18), (0, .ref (ad a)), (1, va_re ad p0), (2, .int p1), (3, .int p2), (4, .int p3)] → W p l e (headSpec wuX6_predictSixteen ({ frames := 1, cells := 0, slots := 0, locals := 33 })).room s m ([.ref (ad a), va_re ad p0, .int p1, .int p2, .int p3] : List Value).toArray below meth c H locs 0 0 (MQ below (va_Qv (fun (_ : Unit) => True) (fun _ t => kE D ct ad G A y t) A) ([.ref (ad a), va_re ad p0, .int p1, .int p2, .int p3] : List Value).toArray s 0 0 A) (F0 m 141 ls []) := by
          intro H locs ls hP hD hS hl
          refine lv_iconst (v := (0 : Int32)) hx hb dX6_predictSixteen_141 (by decide) ?_
          refine lv_istore (lv' := [(9, .int (0 : Int32)), (8, .int x17), (7, .int y14), (6, .int y12), (5, .int y18), (0, .ref (ad a)), (1, va_re ad p0), (2, .int p1), (3, .int p2), (4, .int p3)]) hx hb dX6_predictSixteen_142 hl (by decide) rfl (fun ls hl => ?_)
          obtain ⟨y19, hy19, hF⟩ := bnd_some hF
          have K19 : ∀ (H : Heap) (locs : List Loc) (ls : Array Slot), va_P D classes (wld ct ad G y19.2) H → va_D A (wld ct ad G y19.2) → va_S A s.heap H locs → lv_has ls 10 [(9, .int y19.1), (8, .int x17), (7, .int y14), (6, .int y12), (5, .int y18), (0, .ref (ad a)), (1, va_re ad p0), (2, .int p1), (3, .int p2), (4, .int p3)] → W p l e (headSpec wuX6_predictSixteen ({ frames := 1, cells := 0, slots := 0, locals := 33 })).room s m ([.ref (ad a), va_re ad p0, .int p1, .int p2, .int p3] : List Value).toArray below meth c H locs 0 0 (MQ below (va_Qv (fun (_ : Unit) => True) (fun _ t => kE D ct ad G A y t) A) ([.ref (ad a), va_re ad p0, .int p1, .int p2, .int p3] : List Value).toArray s 0 0 A) (F0 m 207 ls []) := by
            intro H locs ls hP hD hS hl
            obtain rfl := Option.some.inj hF
            exact W.vret hx hb hr (fun t ht hW => ⟨⟨(), rfl, trivial, ⟨by rw [ht]; exact hP, va_K.moved hW.alike hK, hD⟩⟩, hS.F ht⟩) hS.2.2 dX6_predictSixteen_207
          clear hF
          refine itr_rule (fun (s20 : Int32 × DD) => ∀ (H : Heap) (locs : List Loc) (ls : Array Slot), va_P D classes (wld ct ad G s20.2) H → va_D A (wld ct ad G s20.2) → va_S A s.heap H locs → lv_has ls 10 [(9, .int s20.1), (8, .int x17), (7, .int y14), (6, .int y12), (5, .int y18), (0, .ref (ad a)), (1, va_re ad p0), (2, .int p1), (3, .int p2), (4, .int p3)] → W p l e (headSpec wuX6_predictSixteen ({ frames := 1, cells := 0, slots := 0, locals := 33 })).room s m ([.ref (ad a), va_re ad p0, .int p1, .int p2, .int p3] : List Value).toArray below meth c H locs 0 0 (MQ below (va_Qv (fun (_ : Unit) => True) (fun _ t => kE D ct ad G A y t) A) ([.ref (ad a), va_re ad p0, .int p1, .int p2, .int p3] : List Value).toArray s 0 0 A) (F0 m 144 ls [])) ?_ _ _ hy19 _ _ _ hP hD hS (lv_sub hl [0, 1, 2, 3, 4, 5, 6, 7, 8, 9] rfl)
          rintro s20 ⟨z22, hF, hwz22⟩ H locs ls hP hD hS hl
          try dsimp only at hF
          refine lv_iload hx hb dX6_predictSixteen_144 (lv_at hl 0 rfl) ?_
          refine lv_sipush (v := (256 : Int32)) hx hb dX6_predictSixteen_146 (by decide) ?_
          refine lv_icmp_ge (tgt := 207) hx hb dX6_predictSixteen_149 (by decide) (fun c23 => ?_) (fun c23 => ?_)
          · rw [if_pos c23] at hF
            obtain rfl := Option.some.inj hF
            subst hwz22
            exact K19 _ _ _ hP hD hS (lv_sub hl [0, 1, 2, 3, 4, 5, 6, 7, 8, 9] rfl)
          · rw [if_neg c23] at hF
            refine lv_aload_n hx hb dX6_predictSixteen_152 rfl (lv_at hl 5 rfl) ?_
            refine va_get (D := D) (ci := 6) (v := va_re ad (s20.2.2 a 0)) (C := RX6) (T := TX6) (N := 14) hx hb hts (mus hf_X6) hown hK hP a (wld_o ct ad G s20.2 hc hk (by decide)) rfl 0 (by decide) (hts (.fieldLink RX6 9 "VideoSuite$Samples" "guess" "[I") (mu mw_533)) (fun _ h9 => h9) rfl dX6_predictSixteen_153 ?_
            refine lv_iload hx hb dX6_predictSixteen_156 (lv_at hl 0 rfl) ?_
            refine lv_iload_n hx hb dX6_predictSixteen_158 rfl (lv_at hl 8 rfl) ?_
            obtain ⟨y24, hy24, hF⟩ := bnd_some hF
            have J24 : ∀ (H : Heap) (locs : List Loc) (ls : Array Slot), va_P D classes (wld ct ad G s20.2) H → va_D A (wld ct ad G s20.2) → va_S A s.heap H locs → lv_has ls 10 [(9, .int s20.1), (8, .int x17), (7, .int y14), (6, .int y12), (5, .int y18), (0, .ref (ad a)), (1, va_re ad p0), (2, .int p1), (3, .int p2), (4, .int p3)] → W p l e (headSpec wuX6_predictSixteen ({ frames := 1, cells := 0, slots := 0, locals := 33 })).room s m ([.ref (ad a), va_re ad p0, .int p1, .int p2, .int p3] : List Value).toArray below meth c H locs 0 0 (MQ below (va_Qv (fun (_ : Unit) => True) (fun _ t => kE D ct ad G A y t) A) ([.ref (ad a), va_re ad p0, .int p1, .int p2, .int p3] : List Value).toArray s 0 0 A) (F0 m 200 ls [.int y24, .int s20.1, va_re ad (s20.2.2 a 0)]) := by
              intro H locs ls hP hD hS hl
              obtain ⟨b25, ho25, hc25, hk25, hF⟩ := dr_some hF
              refine W_st (st' := [.int y24, .int s20.1, .ref (ad b25)]) (by rw [va_some ho25]) ?_
              obtain ⟨hvc, hF⟩ := chk_some hF
              refine va_iast hx hb hK hP hD hS b25 1 (wld_i ct ad G s20.2 hc25 hk25) rfl hvc dX6_predictSixteen_200 (fun H locs hP hD hS => ?_)
              obtain ⟨M26, eM26, hF⟩ := ltt_some hF
              rw [set_i ct ad G s20.2 hc25 hk25, ← eM26] at hP hD
              obtain ⟨x27, ex27, hF⟩ := ltt_some hF
              refine lv_iinc (v := x27) (lv' := [(9, .int x27), (8, .int x17), (7, .int y14), (6, .int y12), (5, .int y18), (0, .ref (ad a)), (1, va_re ad p0), (2, .int p1), (3, .int p2), (4, .int p3)]) hx hb dX6_predictSixteen_201 hl (k := 0) rfl (by rw [ex27]; rfl) (by decide) rfl (fun ls hl => ?_)
              refine lv_goto (tgt := 144) hx hb dX6_predictSixteen_204 (by decide) ?_
              obtain rfl := Option.some.inj hF
              exact hwz22 _ _ _ hP hD hS (lv_sub hl [0, 1, 2, 3, 4, 5, 6, 7, 8, 9] rfl)
            clear hF
            have hF := hy24
            clear hy24
            refine lv_if_ne (tgt := 177) hx hb dX6_predictSixteen_159 (by decide) (fun c28 => ?_) (fun c28 => ?_)
            · rw [if_neg c28] at hF
              refine lv_iload_n hx hb dX6_predictSixteen_177 rfl (lv_at hl 8 rfl) ?_
              refine lv_iconst (v := (1 : Int32)) hx hb dX6_predictSixteen_178 (by decide) ?_
              obtain ⟨y29, hy29, hF⟩ := bnd_some hF
              have J29 : ∀ (H : Heap) (locs : List Loc) (ls : Array Slot), va_P D classes (wld ct ad G s20.2) H → va_D A (wld ct ad G s20.2) → va_S A s.heap H locs → lv_has ls 10 [(9, .int s20.1), (8, .int x17), (7, .int y14), (6, .int y12), (5, .int y18), (0, .ref (ad a)), (1, va_re ad p0), (2, .int p1), (3, .int p2), (4, .int p3)] → W p l e (headSpec wuX6_predictSixteen ({ frames := 1, cells := 0, slots := 0, locals := 33 })).room s m ([.ref (ad a), va_re ad p0, .int p1, .int p2, .int p3] : List Value).toArray below meth c H locs 0 0 (MQ below (va_Qv (fun (_ : Unit) => True) (fun _ t => kE D ct ad G A y t) A) ([.ref (ad a), va_re ad p0, .int p1, .int p2, .int p3] : List Value).toArray s 0 0 A) (F0 m 200 ls [.int y29, .int s20.1, va_re ad (s20.2.2 a 0)]) := by
                intro H locs ls hP hD hS hl
                obtain rfl := Option.some.inj hF
                exact J24 _ _ _ hP hD hS (lv_sub hl [0, 1, 2, 3, 4, 5, 6, 7, 8, 9] rfl)
              clear hF
              have hF := hy29
              clear hy29
              refine lv_icmp_ne (tgt := 198) hx hb dX6_predictSixteen_179 (by decide) (fun c30 => ?_) (fun c30 => ?_)
              · rw [if_neg c30] at hF
                refine lv_iload hx hb dX6_predictSixteen_198 (lv_at hl 4 rfl) ?_
                obtain rfl := Option.some.inj hF
                exact J29 _ _ _ hP hD hS (lv_sub hl [0, 1, 2, 3, 4, 5, 6, 7, 8, 9] rfl)
              · rw [if_pos c30] at hF
                refine lv_aload_n hx hb dX6_predictSixteen_182 rfl (lv_at hl 5 rfl) ?_
                refine va_get (D := D) (ci := 6) (v := va_re ad (s20.2.2 a 8)) (C := RX6) (T := TX6) (N := 14) hx hb hts (mus hf_X6) hown hK hP a (wld_o ct ad G s20.2 hc hk (by decide)) rfl 8 (by decide) (hts (.fieldLink RX6 36 "VideoSuite$Samples" "around" "[I") (mu mw_544)) (fun _ h9 => h9) rfl dX6_predictSixteen_183 ?_
                refine lv_bipush (v := (18 : Int32)) hx hb dX6_predictSixteen_186 (by decide) ?_
                refine lv_iload hx hb dX6_predictSixteen_188 (lv_at hl 0 rfl) ?_
                refine lv_bipush (v := (16 : Int32)) hx hb dX6_predictSixteen_190 (by decide) ?_
                refine lv_idiv hx hb dX6_predictSixteen_192 (by decide) ?_
                obtain ⟨x31, ex31, hF⟩ := ltt_some hF
                refine lv_topi (fun zx31 ezx31 => ?_)
                obtain rfl : x31 = zx31 := ex31.trans ezx31.symm
                refine lv_iadd hx hb dX6_predictSixteen_193 ?_
                obtain ⟨x32, ex32, hF⟩ := ltt_some hF
                refine lv_topi (fun zx32 ezx32 => ?_)
                obtain rfl : x32 = zx32 := ex32.trans ezx32.symm
                obtain ⟨b33, ho33, hc33, hk33, hF⟩ := dr_some hF
                refine W_st (st' := [.int x32, .ref (ad b33), .int s20.1, va_re ad (s20.2.2 a 0)]) (by rw [va_some ho33]) ?_
                obtain ⟨hvc, hF⟩ := chk_some hF
                refine va_iald hx hb hK hP b33 1 (wld_i ct ad G s20.2 hc33 hk33) rfl hvc dX6_predictSixteen_194 ?_
                obtain ⟨x34, ex34, hF⟩ := ltt_some hF
                refine lv_topi (fun zx34 ezx34 => ?_)
                obtain rfl : x34 = zx34 := ex34.trans ezx34.symm
                refine lv_goto (tgt := 200) hx hb dX6_predictSixteen_195 (by decide) ?_
                obtain rfl := Option.some.inj hF
                exact J29 _ _ _ hP hD hS (lv_sub hl [0, 1, 2, 3, 4, 5, 6, 7, 8, 9] rfl)
            · rw [if_pos c28] at hF
              refine lv_aload_n hx hb dX6_predictSixteen_162 rfl (lv_at hl 5 rfl) ?_
              refine va_get (D := D) (ci := 6) (v := va_re ad (s20.2.2 a 8)) (C := RX6) (T := TX6) (N := 14) hx hb hts (mus hf_X6) hown hK hP a (wld_o ct ad G s20.2 hc hk (by decide)) rfl 8 (by decide) (hts (.fieldLink RX6 36 "VideoSuite$Samples" "around" "[I") (mu mw_544)) (fun _ h9 => h9) rfl dX6_predictSixteen_163 ?_
              refine lv_iconst (v := (1 : Int32)) hx hb dX6_predictSixteen_166 (by decide) ?_
              refine lv_iload hx hb dX6_predictSixteen_167 (lv_at hl 0 rfl) ?_
              refine lv_bipush (v := (16 : Int32)) hx hb dX6_predictSixteen_169 (by decide) ?_
              refine lv_irem hx hb dX6_predictSixteen_171 (by decide) ?_
              obtain ⟨x35, ex35, hF⟩ := ltt_some hF
              refine lv_topi (fun zx35 ezx35 => ?_)
              obtain rfl : x35 = zx35 := ex35.trans ezx35.symm
              refine lv_iadd hx hb dX6_predictSixteen_172 ?_
              obtain ⟨x36, ex36, hF⟩ := ltt_some hF
              refine lv_topi (fun zx36 ezx36 => ?_)
              obtain rfl : x36 = zx36 := ex36.trans ezx36.symm
              obtain ⟨b37, ho37, hc37, hk37, hF⟩ := dr_some hF
              refine W_st (st' := [.int x36, .ref (ad b37), .int s20.1, va_re ad (s20.2.2 a 0)]) (by rw [va_some ho37]) ?_
              obtain ⟨hvc, hF⟩ := chk_some hF
              refine va_iald hx hb hK hP b37 1 (wld_i ct ad G s20.2 hc37 hk37) rfl hvc dX6_predictSixteen_173 ?_
              obtain ⟨x38, ex38, hF⟩ := ltt_some hF
              refine lv_topi (fun zx38 ezx38 => ?_)
              obtain rfl : x38 = zx38 := ex38.trans ezx38.symm
              refine lv_goto (tgt := 200) hx hb dX6_predictSixteen_174 (by decide) ?_
              obtain rfl := Option.some.inj hF
              exact J24 _ _ _ hP hD hS (lv_sub hl [0, 1, 2, 3, 4, 5, 6, 7, 8, 9] rfl)
        clear hF
        have hF := hy18
        clear hy18
        refine lv_if_ne (tgt := 112) hx hb dX6_predictSixteen_104 (by decide) (fun c39 => ?_) (fun c39 => ?_)
        · rw [if_neg c39] at hF
          refine lv_iload hx hb dX6_predictSixteen_112 (lv_at hl 2 rfl) ?_
          obtain ⟨y40, hy40, hF⟩ := bnd_some hF
          have J40 : ∀ (H : Heap) (locs : List Loc) (ls : Array Slot), va_P D classes (wld ct ad G y16.1) H → va_D A (wld ct ad G y16.1) → va_S A s.heap H locs → lv_has ls 10 [(8, .int x17), (7, .int y14), (6, .int y12), (5, .int (128 : Int32)), (0, .ref (ad a)), (1, va_re ad p0), (2, .int p1), (3, .int p2), (4, .int p3)] → W p l e (headSpec wuX6_predictSixteen ({ frames := 1, cells := 0, slots := 0, locals := 33 })).room s m ([.ref (ad a), va_re ad p0, .int p1, .int p2, .int p3] : List Value).toArray below meth c H locs 0 0 (MQ below (va_Qv (fun (_ : Unit) => True) (fun _ t => kE D ct ad G A y t) A) ([.ref (ad a), va_re ad p0, .int p1, .int p2, .int p3] : List Value).toArray s 0 0 A) (F0 m 139 ls [.int y40]) := by
            intro H locs ls hP hD hS hl
            refine lv_istore (lv' := [(5, .int y40), (8, .int x17), (7, .int y14), (6, .int y12), (0, .ref (ad a)), (1, va_re ad p0), (2, .int p1), (3, .int p2), (4, .int p3)]) hx hb dX6_predictSixteen_139 hl (by decide) rfl (fun ls hl => ?_)
            obtain rfl := Option.some.inj hF
            exact J18 _ _ _ hP hD hS (lv_sub hl [1, 2, 3, 0, 4, 5, 6, 7, 8] rfl)
          clear hF
          have hF := hy40
          clear hy40
          refine lv_if_eq (tgt := 132) hx hb dX6_predictSixteen_114 (by decide) (fun c41 => ?_) (fun c41 => ?_)
          · rw [if_pos c41] at hF
            refine lv_iload hx hb dX6_predictSixteen_132 (lv_at hl 0 rfl) ?_
            refine lv_bipush (v := (8 : Int32)) hx hb dX6_predictSixteen_134 (by decide) ?_
            refine lv_iadd hx hb dX6_predictSixteen_136 ?_
            obtain ⟨x42, ex42, hF⟩ := ltt_some hF
            refine lv_topi (fun zx42 ezx42 => ?_)
            obtain rfl : x42 = zx42 := ex42.trans ezx42.symm
            refine lv_iconst (v := (4 : Int32)) hx hb dX6_predictSixteen_137 (by decide) ?_
            refine lv_ishr hx hb dX6_predictSixteen_138 ?_
            obtain ⟨x43, ex43, hF⟩ := ltt_some hF
            refine lv_topi (fun zx43 ezx43 => ?_)
            obtain rfl : x43 = zx43 := ex43.trans ezx43.symm
            obtain rfl := Option.some.inj hF
            exact J40 _ _ _ hP hD hS (lv_sub hl [0, 1, 2, 3, 4, 5, 6, 7, 8] rfl)
          · rw [if_neg c41] at hF
            refine lv_iload hx hb dX6_predictSixteen_117 (lv_at hl 1 rfl) ?_
            obtain ⟨y44, hy44, hF⟩ := bnd_some hF
            have J44 : ∀ (H : Heap) (locs : List Loc) (ls : Array Slot), va_P D classes (wld ct ad G y16.1) H → va_D A (wld ct ad G y16.1) → va_S A s.heap H locs → lv_has ls 10 [(8, .int x17), (7, .int y14), (6, .int y12), (5, .int (128 : Int32)), (0, .ref (ad a)), (1, va_re ad p0), (2, .int p1), (3, .int p2), (4, .int p3)] → W p l e (headSpec wuX6_predictSixteen ({ frames := 1, cells := 0, slots := 0, locals := 33 })).room s m ([.ref (ad a), va_re ad p0, .int p1, .int p2, .int p3] : List Value).toArray below meth c H locs 0 0 (MQ below (va_Qv (fun (_ : Unit) => True) (fun _ t => kE D ct ad G A y t) A) ([.ref (ad a), va_re ad p0, .int p1, .int p2, .int p3] : List Value).toArray s 0 0 A) (F0 m 139 ls [.int y44]) := by
              intro H locs ls hP hD hS hl
              obtain rfl := Option.some.inj hF
              exact J40 _ _ _ hP hD hS (lv_sub hl [0, 1, 2, 3, 4, 5, 6, 7, 8] rfl)
            clear hF
            have hF := hy44
            clear hy44
            refine lv_if_eq (tgt := 132) hx hb dX6_predictSixteen_119 (by decide) (fun c45 => ?_) (fun c45 => ?_)
            · rw [if_pos c45] at hF
              refine lv_iload hx hb dX6_predictSixteen_132 (lv_at hl 0 rfl) ?_
              refine lv_bipush (v := (8 : Int32)) hx hb dX6_predictSixteen_134 (by decide) ?_
              refine lv_iadd hx hb dX6_predictSixteen_136 ?_
              obtain ⟨x46, ex46, hF⟩ := ltt_some hF
              refine lv_topi (fun zx46 ezx46 => ?_)
              obtain rfl : x46 = zx46 := ex46.trans ezx46.symm
              refine lv_iconst (v := (4 : Int32)) hx hb dX6_predictSixteen_137 (by decide) ?_
              refine lv_ishr hx hb dX6_predictSixteen_138 ?_
              obtain ⟨x47, ex47, hF⟩ := ltt_some hF
              refine lv_topi (fun zx47 ezx47 => ?_)
              obtain rfl : x47 = zx47 := ex47.trans ezx47.symm
              obtain rfl := Option.some.inj hF
              exact J44 _ _ _ hP hD hS (lv_sub hl [0, 1, 2, 3, 4, 5, 6, 7, 8] rfl)
            · rw [if_neg c45] at hF
              refine lv_iload hx hb dX6_predictSixteen_122 (lv_at hl 0 rfl) ?_
              refine lv_bipush (v := (16 : Int32)) hx hb dX6_predictSixteen_124 (by decide) ?_
              refine lv_iadd hx hb dX6_predictSixteen_126 ?_
              obtain ⟨x48, ex48, hF⟩ := ltt_some hF
              refine lv_topi (fun zx48 ezx48 => ?_)
              obtain rfl : x48 = zx48 := ex48.trans ezx48.symm
              refine lv_iconst (v := (5 : Int32)) hx hb dX6_predictSixteen_127 (by decide) ?_
              refine lv_ishr hx hb dX6_predictSixteen_128 ?_
              obtain ⟨x49, ex49, hF⟩ := ltt_some hF
              refine lv_topi (fun zx49 ezx49 => ?_)
              obtain rfl : x49 = zx49 := ex49.trans ezx49.symm
              refine lv_goto (tgt := 139) hx hb dX6_predictSixteen_129 (by decide) ?_
              obtain rfl := Option.some.inj hF
              exact J44 _ _ _ hP hD hS (lv_sub hl [0, 1, 2, 3, 4, 5, 6, 7, 8] rfl)
        · rw [if_pos c39] at hF
          refine lv_iload hx hb dX6_predictSixteen_107 (lv_at hl 1 rfl) ?_
          obtain ⟨y50, hy50, hF⟩ := bnd_some hF
          have J50 : ∀ (H : Heap) (locs : List Loc) (ls : Array Slot), va_P D classes (wld ct ad G y16.1) H → va_D A (wld ct ad G y16.1) → va_S A s.heap H locs → lv_has ls 10 [(8, .int x17), (7, .int y14), (6, .int y12), (5, .int y50), (0, .ref (ad a)), (1, va_re ad p0), (2, .int p1), (3, .int p2), (4, .int p3)] → W p l e (headSpec wuX6_predictSixteen ({ frames := 1, cells := 0, slots := 0, locals := 33 })).room s m ([.ref (ad a), va_re ad p0, .int p1, .int p2, .int p3] : List Value).toArray below meth c H locs 0 0 (MQ below (va_Qv (fun (_ : Unit) => True) (fun _ t => kE D ct ad G A y t) A) ([.ref (ad a), va_re ad p0, .int p1, .int p2, .int p3] : List Value).toArray s 0 0 A) (F0 m 141 ls []) := by
            intro H locs ls hP hD hS hl
            obtain rfl := Option.some.inj hF
            exact J18 _ _ _ hP hD hS (lv_sub hl [0, 1, 2, 3, 4, 5, 6, 7, 8] rfl)
          clear hF
          have hF := hy50
          clear hy50
          refine lv_if_eq (tgt := 141) hx hb dX6_predictSixteen_109 (by decide) (fun c51 => ?_) (fun c51 => ?_)
          · rw [if_pos c51] at hF
            obtain rfl := Option.some.inj hF
            exact J50 _ _ _ hP hD hS (lv_sub hl [0, 1, 2, 3, 4, 5, 6, 7, 8] rfl)
          · rw [if_neg c51] at hF
            refine lv_iload hx hb dX6_predictSixteen_112 (lv_at hl 2 rfl) ?_
            obtain ⟨y52, hy52, hF⟩ := bnd_some hF
            have J52 : ∀ (H : Heap) (locs : List Loc) (ls : Array Slot), va_P D classes (wld ct ad G y16.1) H → va_D A (wld ct ad G y16.1) → va_S A s.heap H locs → lv_has ls 10 [(8, .int x17), (7, .int y14), (6, .int y12), (5, .int (128 : Int32)), (0, .ref (ad a)), (1, va_re ad p0), (2, .int p1), (3, .int p2), (4, .int p3)] → W p l e (headSpec wuX6_predictSixteen ({ frames := 1, cells := 0, slots := 0, locals := 33 })).room s m ([.ref (ad a), va_re ad p0, .int p1, .int p2, .int p3] : List Value).toArray below meth c H locs 0 0 (MQ below (va_Qv (fun (_ : Unit) => True) (fun _ t => kE D ct ad G A y t) A) ([.ref (ad a), va_re ad p0, .int p1, .int p2, .int p3] : List Value).toArray s 0 0 A) (F0 m 139 ls [.int y52]) := by
              intro H locs ls hP hD hS hl
              refine lv_istore (lv' := [(5, .int y52), (8, .int x17), (7, .int y14), (6, .int y12), (0, .ref (ad a)), (1, va_re ad p0), (2, .int p1), (3, .int p2), (4, .int p3)]) hx hb dX6_predictSixteen_139 hl (by decide) rfl (fun ls hl => ?_)
              obtain rfl := Option.some.inj hF
              exact J50 _ _ _ hP hD hS (lv_sub hl [1, 2, 3, 0, 4, 5, 6, 7, 8] rfl)
            clear hF
            have hF := hy52
            clear hy52
            refine lv_if_eq (tgt := 132) hx hb dX6_predictSixteen_114 (by decide) (fun c53 => ?_) (fun c53 => ?_)
            · rw [if_pos c53] at hF
              refine lv_iload hx hb dX6_predictSixteen_132 (lv_at hl 0 rfl) ?_
              refine lv_bipush (v := (8 : Int32)) hx hb dX6_predictSixteen_134 (by decide) ?_
              refine lv_iadd hx hb dX6_predictSixteen_136 ?_
              obtain ⟨x54, ex54, hF⟩ := ltt_some hF
              refine lv_topi (fun zx54 ezx54 => ?_)
              obtain rfl : x54 = zx54 := ex54.trans ezx54.symm
              refine lv_iconst (v := (4 : Int32)) hx hb dX6_predictSixteen_137 (by decide) ?_
              refine lv_ishr hx hb dX6_predictSixteen_138 ?_
              obtain ⟨x55, ex55, hF⟩ := ltt_some hF
              refine lv_topi (fun zx55 ezx55 => ?_)
              obtain rfl : x55 = zx55 := ex55.trans ezx55.symm
              obtain rfl := Option.some.inj hF
              exact J52 _ _ _ hP hD hS (lv_sub hl [0, 1, 2, 3, 4, 5, 6, 7, 8] rfl)
            · rw [if_neg c53] at hF
              refine lv_iload hx hb dX6_predictSixteen_117 (lv_at hl 1 rfl) ?_
              obtain ⟨y56, hy56, hF⟩ := bnd_some hF
              have J56 : ∀ (H : Heap) (locs : List Loc) (ls : Array Slot), va_P D classes (wld ct ad G y16.1) H → va_D A (wld ct ad G y16.1) → va_S A s.heap H locs → lv_has ls 10 [(8, .int x17), (7, .int y14), (6, .int y12), (5, .int (128 : Int32)), (0, .ref (ad a)), (1, va_re ad p0), (2, .int p1), (3, .int p2), (4, .int p3)] → W p l e (headSpec wuX6_predictSixteen ({ frames := 1, cells := 0, slots := 0, locals := 33 })).room s m ([.ref (ad a), va_re ad p0, .int p1, .int p2, .int p3] : List Value).toArray below meth c H locs 0 0 (MQ below (va_Qv (fun (_ : Unit) => True) (fun _ t => kE D ct ad G A y t) A) ([.ref (ad a), va_re ad p0, .int p1, .int p2, .int p3] : List Value).toArray s 0 0 A) (F0 m 139 ls [.int y56]) := by
                intro H locs ls hP hD hS hl
                obtain rfl := Option.some.inj hF
                exact J52 _ _ _ hP hD hS (lv_sub hl [0, 1, 2, 3, 4, 5, 6, 7, 8] rfl)
              clear hF
              have hF := hy56
              clear hy56
              refine lv_if_eq (tgt := 132) hx hb dX6_predictSixteen_119 (by decide) (fun c57 => ?_) (fun c57 => ?_)
              · rw [if_pos c57] at hF
                refine lv_iload hx hb dX6_predictSixteen_132 (lv_at hl 0 rfl) ?_
                refine lv_bipush (v := (8 : Int32)) hx hb dX6_predictSixteen_134 (by decide) ?_
                refine lv_iadd hx hb dX6_predictSixteen_136 ?_
                obtain ⟨x58, ex58, hF⟩ := ltt_some hF
                refine lv_topi (fun zx58 ezx58 => ?_)
                obtain rfl : x58 = zx58 := ex58.trans ezx58.symm
                refine lv_iconst (v := (4 : Int32)) hx hb dX6_predictSixteen_137 (by decide) ?_
                refine lv_ishr hx hb dX6_predictSixteen_138 ?_
                obtain ⟨x59, ex59, hF⟩ := ltt_some hF
                refine lv_topi (fun zx59 ezx59 => ?_)
                obtain rfl : x59 = zx59 := ex59.trans ezx59.symm
                obtain rfl := Option.some.inj hF
                exact J56 _ _ _ hP hD hS (lv_sub hl [0, 1, 2, 3, 4, 5, 6, 7, 8] rfl)
              · rw [if_neg c57] at hF
                refine lv_iload hx hb dX6_predictSixteen_122 (lv_at hl 0 rfl) ?_
                refine lv_bipush (v := (16 : Int32)) hx hb dX6_predictSixteen_124 (by decide) ?_
                refine lv_iadd hx hb dX6_predictSixteen_126 ?_
                obtain ⟨x60, ex60, hF⟩ := ltt_some hF
                refine lv_topi (fun zx60 ezx60 => ?_)
                obtain rfl : x60 = zx60 := ex60.trans ezx60.symm
                refine lv_iconst (v := (5 : Int32)) hx hb dX6_predictSixteen_127 (by decide) ?_
                refine lv_ishr hx hb dX6_predictSixteen_128 ?_
                obtain ⟨x61, ex61, hF⟩ := ltt_some hF
                refine lv_topi (fun zx61 ezx61 => ?_)
                obtain rfl : x61 = zx61 := ex61.trans ezx61.symm
                refine lv_goto (tgt := 139) hx hb dX6_predictSixteen_129 (by decide) ?_
                obtain rfl := Option.some.inj hF
                exact J56 _ _ _ hP hD hS (lv_sub hl [0, 1, 2, 3, 4, 5, 6, 7, 8] rfl)
      clear hF
      have hF := hy14
      clear hy14
      refine lv_if_eq (tgt := 81) hx hb dX6_predictSixteen_74 (by decide) (fun c62 => ?_) (fun c62 => ?_)
      · rw [if_pos c62] at hF
        refine lv_iconst (v := (0 : Int32)) hx hb dX6_predictSixteen_81 (by decide) ?_
        obtain rfl := Option.some.inj hF
        exact J14 _ _ _ hP hD hS (lv_sub hl [0, 1, 2, 3, 4, 5, 6] rfl)
      · rw [if_neg c62] at hF
        refine lv_iconst (v := (1 : Int32)) hx hb dX6_predictSixteen_77 (by decide) ?_
        refine lv_goto (tgt := 82) hx hb dX6_predictSixteen_78 (by decide) ?_
        obtain rfl := Option.some.inj hF
        exact J14 _ _ _ hP hD hS (lv_sub hl [0, 1, 2, 3, 4, 5, 6] rfl)
    clear hF
    have hF := hy12
    clear hy12
    refine lv_if_eq (tgt := 67) hx hb dX6_predictSixteen_60 (by decide) (fun c63 => ?_) (fun c63 => ?_)
    · rw [if_pos c63] at hF
      refine lv_iconst (v := (0 : Int32)) hx hb dX6_predictSixteen_67 (by decide) ?_
      obtain rfl := Option.some.inj hF
      exact J12 _ _ _ hP hD hS (lv_sub hl [0, 1, 2, 3, 4, 5] rfl)
    · rw [if_neg c63] at hF
      refine lv_iconst (v := (1 : Int32)) hx hb dX6_predictSixteen_63 (by decide) ?_
      refine lv_goto (tgt := 68) hx hb dX6_predictSixteen_64 (by decide) ?_
      obtain rfl := Option.some.inj hF
      exact J12 _ _ _ hP hD hS (lv_sub hl [0, 1, 2, 3, 4, 5] rfl)
  · rw [if_pos c10] at hF
    refine lv_aload_n hx hb dX6_predictSixteen_42 rfl (lv_at hl 0 rfl) ?_
    refine lv_iconst (v := (0 : Int32)) hx hb dX6_predictSixteen_43 (by decide) ?_
    refine lv_bipush (v := (16 : Int32)) hx hb dX6_predictSixteen_44 (by decide) ?_
    refine lv_iconst (v := (5 : Int32)) hx hb dX6_predictSixteen_46 (by decide) ?_
    obtain ⟨y64, hy64, hF⟩ := bnd_some hF
    have hf9 := wA_in hD hA9 hS
    refine va_callv (va_runV (As := [.int (0 : Int32), .int (16 : Int32), .int (5 : Int32)]) (rest := []) ⟨hx, hb, hml, hown, hts⟩ (kX6_fillPlane l D ct ad Z G y9 H.size a ((0 : Int32)) ((16 : Int32)) ((5 : Int32)) y64 hc hk hy64) (cwV 3 hts gX6_predictSixteen_X6_fillPlane rfl rfl rfl (by decide +kernel) ⟨Nat.le_of_ble_eq_true rfl, Nat.le_of_ble_eq_true rfl⟩) ⟨fun a U g mk q => by obtain ⟨q0, q1, qP, qK, qD, qZ, qN⟩ := q; exact ⟨q0, q1, qP, va_K.moved (u := U) (U := U.calling g mk a) (Vm.Alike.refl U.vm) qK, qD, sF.moved (u := U) (U := U.calling g mk a) (Vm.Alike.refl U.vm) qZ, nF.same rfl qN⟩, va_recv hK hP (ci := 6) (q0 := a) rfl (wld_o ct ad G y9 hc hk (by decide)), fun U hU hW => ⟨rfl, by rw [hU], by rw [hU]; exact hP, va_K.moved hW.alike hK, hD.weaken (fun _ _ _ _ => trivial), by rw [hU]; exact ((hZ.kept hS.2.1).narrow hf9).moved hW.alike, hN.warm hW⟩⟩ rfl rfl hl.1 rfl (lv_room (Nat.le_of_ble_eq_true rfl)) dX6_predictSixteen_47 ⟨(Nat.zero_le _), (Nat.zero_le _)⟩) hS (fun q _ h => hf9 q h) hf9 (fun u t H locs ht hvm hw hB hz1 hk1 hS => ?_)
    obtain ⟨hP, hK9, hD9⟩ := hB
    rw [ht] at hP
    have hD := hD9.weaken (fun _ q _ h => hf9 q.1 h)
    obtain rfl := Option.some.inj hF
    exact W.vret hx hb hr (fun t ht hW => ⟨⟨(), rfl, trivial, ⟨by rw [ht]; exact hP, va_K.moved hW.alike hK, hD⟩⟩, hS.F ht⟩) hS.2.2 dX6_predictSixteen_50
set_option maxRecDepth 20000 in
theorem gX6_slant_X6_three : GoodIn wuX6_slant (wsV RX6 186 RX6 yX6_three wuX6_three) := gu_V mw_2122 mw_2124 mw_87 mw_172 mw_2125
set_option maxRecDepth 20000 in
theorem gX6_slant_X6_two : GoodIn wuX6_slant (wsV RX6 192 RX6 yX6_two wuX6_two) := gu_V mw_2130 mw_2132 mw_89 mw_172 mw_2133
set_option maxRecDepth 20000 in
theorem dX6_slant_0 : decode cX6_slant 0 = .ok (.iconst 2, 1) := by decide +kernel
theorem dX6_slant_1 : decode cX6_slant 1 = .ok (.iload_n 1, 1) := by decide +kernel
theorem dX6_slant_2 : decode cX6_slant 2 = .ok (.imul, 1) := by decide +kernel
theorem dX6_slant_3 : decode cX6_slant 3 = .ok (.iload_n 2, 1) := by decide +kernel
theorem dX6_slant_4 : decode cX6_slant 4 = .ok (.isub, 1) := by decide +kernel
theorem dX6_slant_5 : decode cX6_slant 5 = .ok (.istore 4, 2) := by decide +kernel
theorem dX6_slant_7 : decode cX6_slant 7 = .ok (.iload_n 1, 1) := by decide +kernel
theorem dX6_slant_8 : decode cX6_slant 8 = .ok (.iload_n 2, 1) := by decide +kernel
theorem dX6_slant_9 : decode cX6_slant 9 = .ok (.iconst 1, 1) := by decide +kernel
theorem dX6_slant_10 : decode cX6_slant 10 = .ok (.ishr, 1) := by decide +kernel
theorem dX6_slant_11 : decode cX6_slant 11 = .ok (.isub, 1) := by decide +kernel
theorem dX6_slant_12 : decode cX6_slant 12 = .ok (.istore 5, 2) := by decide +kernel
theorem dX6_slant_14 : decode cX6_slant 14 = .ok (.iload 4, 2) := by decide +kernel
theorem dX6_slant_16 : decode cX6_slant 16 = .ok (.ifCond .lt 29, 3) := by decide +kernel
theorem dX6_slant_19 : decode cX6_slant 19 = .ok (.iload 4, 2) := by decide +kernel
theorem dX6_slant_21 : decode cX6_slant 21 = .ok (.iconst 2, 1) := by decide +kernel
theorem dX6_slant_22 : decode cX6_slant 22 = .ok (.irem, 1) := by decide +kernel
theorem dX6_slant_23 : decode cX6_slant 23 = .ok (.ifCond .ne 22, 3) := by decide +kernel
theorem dX6_slant_26 : decode cX6_slant 26 = .ok (.aload_n 0, 1) := by decide +kernel
theorem dX6_slant_27 : decode cX6_slant 27 = .ok (.iconst 4, 1) := by decide +kernel
theorem dX6_slant_28 : decode cX6_slant 28 = .ok (.iload_n 3, 1) := by decide +kernel
theorem dX6_slant_29 : decode cX6_slant 29 = .ok (.iload 5, 2) := by decide +kernel
theorem dX6_slant_31 : decode cX6_slant 31 = .ok (.imul, 1) := by decide +kernel
theorem dX6_slant_32 : decode cX6_slant 32 = .ok (.iadd, 1) := by decide +kernel
theorem dX6_slant_33 : decode cX6_slant 33 = .ok (.iconst 4, 1) := by decide +kernel
theorem dX6_slant_34 : decode cX6_slant 34 = .ok (.iload_n 3, 1) := by decide +kernel
theorem dX6_slant_35 : decode cX6_slant 35 = .ok (.iload 5, 2) := by decide +kernel
theorem dX6_slant_37 : decode cX6_slant 37 = .ok (.iconst 1, 1) := by decide +kernel
theorem dX6_slant_38 : decode cX6_slant 38 = .ok (.iadd, 1) := by decide +kernel
theorem dX6_slant_39 : decode cX6_slant 39 = .ok (.imul, 1) := by decide +kernel
theorem dX6_slant_40 : decode cX6_slant 40 = .ok (.iadd, 1) := by decide +kernel
theorem dX6_slant_41 : decode cX6_slant 41 = .ok (.invokevirtual 192, 3) := by decide +kernel
theorem dX6_slant_44 : decode cX6_slant 44 = .ok (.ireturn, 1) := by decide +kernel
theorem dX6_slant_45 : decode cX6_slant 45 = .ok (.iload 4, 2) := by decide +kernel
theorem dX6_slant_47 : decode cX6_slant 47 = .ok (.ifCond .le 8, 3) := by decide +kernel
theorem dX6_slant_50 : decode cX6_slant 50 = .ok (.iload 5, 2) := by decide +kernel
theorem dX6_slant_52 : decode cX6_slant 52 = .ok (.goto 16, 3) := by decide +kernel
theorem dX6_slant_55 : decode cX6_slant 55 = .ok (.iload 4, 2) := by decide +kernel
theorem dX6_slant_57 : decode cX6_slant 57 = .ok (.iconst (-1), 1) := by decide +kernel
theorem dX6_slant_58 : decode cX6_slant 58 = .ok (.if_icmp .ne 7, 3) := by decide +kernel
theorem dX6_slant_61 : decode cX6_slant 61 = .ok (.iconst 0, 1) := by decide +kernel
theorem dX6_slant_62 : decode cX6_slant 62 = .ok (.goto 6, 3) := by decide +kernel
theorem dX6_slant_65 : decode cX6_slant 65 = .ok (.iconst 1, 1) := by decide +kernel
theorem dX6_slant_66 : decode cX6_slant 66 = .ok (.iload_n 2, 1) := by decide +kernel
theorem dX6_slant_67 : decode cX6_slant 67 = .ok (.isub, 1) := by decide +kernel
theorem dX6_slant_68 : decode cX6_slant 68 = .ok (.istore 6, 2) := by decide +kernel
theorem dX6_slant_70 : decode cX6_slant 70 = .ok (.aload_n 0, 1) := by decide +kernel
theorem dX6_slant_71 : decode cX6_slant 71 = .ok (.iconst 4, 1) := by decide +kernel
theorem dX6_slant_72 : decode cX6_slant 72 = .ok (.iload_n 3, 1) := by decide +kernel
theorem dX6_slant_73 : decode cX6_slant 73 = .ok (.iload 6, 2) := by decide +kernel
theorem dX6_slant_75 : decode cX6_slant 75 = .ok (.iconst 1, 1) := by decide +kernel
theorem dX6_slant_76 : decode cX6_slant 76 = .ok (.isub, 1) := by decide +kernel
theorem dX6_slant_77 : decode cX6_slant 77 = .ok (.imul, 1) := by decide +kernel
theorem dX6_slant_78 : decode cX6_slant 78 = .ok (.iadd, 1) := by decide +kernel
theorem dX6_slant_79 : decode cX6_slant 79 = .ok (.iconst 4, 1) := by decide +kernel
theorem dX6_slant_80 : decode cX6_slant 80 = .ok (.iload_n 3, 1) := by decide +kernel
theorem dX6_slant_81 : decode cX6_slant 81 = .ok (.iload 6, 2) := by decide +kernel
theorem dX6_slant_83 : decode cX6_slant 83 = .ok (.imul, 1) := by decide +kernel
theorem dX6_slant_84 : decode cX6_slant 84 = .ok (.iadd, 1) := by decide +kernel
theorem dX6_slant_85 : decode cX6_slant 85 = .ok (.iconst 4, 1) := by decide +kernel
theorem dX6_slant_86 : decode cX6_slant 86 = .ok (.iload_n 3, 1) := by decide +kernel
theorem dX6_slant_87 : decode cX6_slant 87 = .ok (.iload 6, 2) := by decide +kernel
theorem dX6_slant_89 : decode cX6_slant 89 = .ok (.iconst 1, 1) := by decide +kernel
theorem dX6_slant_90 : decode cX6_slant 90 = .ok (.iadd, 1) := by decide +kernel
theorem dX6_slant_91 : decode cX6_slant 91 = .ok (.imul, 1) := by decide +kernel
theorem dX6_slant_92 : decode cX6_slant 92 = .ok (.iadd, 1) := by decide +kernel
theorem dX6_slant_93 : decode cX6_slant 93 = .ok (.invokevirtual 186, 3) := by decide +kernel
theorem dX6_slant_96 : decode cX6_slant 96 = .ok (.ireturn, 1) := by decide +kernel
def FX6_slant (G : GG) (M : DD) (a : Nat) (p0 : Int32) (p1 : Int32) (p2 : Int32) : Option (DD × Int32) :=
  ltt ((((2 : Int32)) * p0)) fun x1 =>
  ltt ((x1 - p1)) fun x2 =>
  ltt ((p1 >>> (((1 : Int32)) &&& 31))) fun x3 =>
  ltt ((p0 - x3)) fun x4 =>
  if x2 < ((0 : Int32)) then (bnd (if x2 ≤ ((0 : Int32)) then (bnd (if x2 = ((-1 : Int32)) then (some ((0 : Int32))) else
  (ltt ((((1 : Int32)) - p1)) fun x19 =>
  some (x19))) fun (y17 : Int32) =>
  some (y17)) else
  (some (x4))) fun (y6 : Int32) =>
  ltt ((y6 - ((1 : Int32)))) fun x7 =>
  ltt ((p2 * x7)) fun x8 =>
  ltt ((((4 : Int32)) + x8)) fun x9 =>
  ltt ((p2 * y6)) fun x10 =>
  ltt ((((4 : Int32)) + x10)) fun x11 =>
  ltt ((y6 + ((1 : Int32)))) fun x12 =>
  ltt ((p2 * x12)) fun x13 =>
  ltt ((((4 : Int32)) + x13)) fun x14 =>
  bnd (FX6_three G M a x9 x11 x14) fun y15 =>
  some (y15.1, y15.2)) else
  (ltt (x2 - x2 / ((2 : Int32)) * ((2 : Int32))) fun x20 =>
  if x20 = ((0 : Int32)) then (ltt ((p2 * x4)) fun x36 =>
  ltt ((((4 : Int32)) + x36)) fun x37 =>
  ltt ((x4 + ((1 : Int32)))) fun x38 =>
  ltt ((p2 * x38)) fun x39 =>
  ltt ((((4 : Int32)) + x39)) fun x40 =>
  bnd (FX6_two G M a x37 x40) fun y41 =>
  some (y41.1, y41.2)) else
  (bnd (if x2 ≤ ((0 : Int32)) then (bnd (if x2 = ((-1 : Int32)) then (some ((0 : Int32))) else
  (ltt ((((1 : Int32)) - p1)) fun x35 =>
  some (x35))) fun (y33 : Int32) =>
  some (y33)) else
  (some (x4))) fun (y22 : Int32) =>
  ltt ((y22 - ((1 : Int32)))) fun x23 =>
  ltt ((p2 * x23)) fun x24 =>
  ltt ((((4 : Int32)) + x24)) fun x25 =>
  ltt ((p2 * y22)) fun x26 =>
  ltt ((((4 : Int32)) + x26)) fun x27 =>
  ltt ((y22 + ((1 : Int32)))) fun x28 =>
  ltt ((p2 * x28)) fun x29 =>
  ltt ((((4 : Int32)) + x29)) fun x30 =>
  bnd (FX6_three G M a x25 x27 x30) fun y31 =>
  some (y31.1, y31.2)))
set_option maxHeartbeats 4000000 in
set_option maxRecDepth 100000 in
theorem kX6_slant (l : Launch) (D : va_G) (ct : CT) (ad : Nat → Nat) (Z : Nat → Nat) (G : GG) (M : DD) (sz : Nat) (a : Nat) (p0 : Int32) (p1 : Int32) (p2 : Int32) (y : DD × Int32) (hc : a < G.1) (hk : G.2.1 a = 6) (hF : FX6_slant G M a p0 p1 p2 = some y) : Met l yX6_slant wuX6_slant ({ frames := 1, cells := 0, slots := 0, locals := 23 }) (va_Pc [.ref (ad a), .int p0, .int p1, .int p2] (kB D ct ad Z G M sz)) (va_Qi (fun (q : Int32) (_ : Unit) => q = y.2) (fun _ t => kE D ct ad G (wA ad G sz) y.1 t) (wA ad G sz)) 0 0 (wA ad G sz) := by
  refine Met.ofW (cc := cX6_slant) (maxL := 7) (ret := (some .int)) (by decide) rfl ?_
  intro p e s m args below meth c s₁ B hml hv
  obtain ⟨rfl, hsz, hP, hK, hD0, hZ, hN⟩ := hv
  have hx := B.exec
  have hb := B.bytes
  have hr := B.returns
  have hts := atoms_spec (ws := wuX6_slant) B.pre
  have hown : s.vm.findClass RX6 = some m.cls := findClass_of_methodNamed B.named
  have hlocks := B.notSynchronized
  subst hsz
  have hD := wD_self (sz := s.heap.size) hD0
  have hA9 : ∀ q, s.heap.size ≤ q → wA ad G s.heap.size q := fun q h => Or.inr h
  generalize hAe : wA ad G s.heap.size = A at hD hA9 hZ ⊢
  have hS : va_S A s.heap s.heap [] := va_S.rf
  have hl := lv_entry ([.ref (ad a), .int p0, .int p1, .int p2]) (n := 7) (Nat.le_of_ble_eq_true rfl)
  rw [lg_entry_eq]
  generalize (lg_sl ([.ref (ad a), .int p0, .int p1, .int p2]) ++ List.replicate (7 - (lg_sl ([.ref (ad a), .int p0, .int p1, .int p2])).length) Slot.unset).toArray = ls at hl ⊢
  have hl : lv_has ls 7 [(0, .ref (ad a)), (1, .int p0), (2, .int p1), (3, .int p2)] := hl
  unfold FX6_slant at hF
  refine lv_iconst (v := (2 : Int32)) hx hb dX6_slant_0 (by decide) ?_
  refine lv_iload_n hx hb dX6_slant_1 rfl (lv_at hl 1 rfl) ?_
  refine lv_imul hx hb dX6_slant_2 ?_
  obtain ⟨x1, ex1, hF⟩ := ltt_some hF
  refine lv_topi (fun zx1 ezx1 => ?_)
  obtain rfl : x1 = zx1 := ex1.trans ezx1.symm
  refine lv_iload_n hx hb dX6_slant_3 rfl (lv_at hl 2 rfl) ?_
  refine lv_isub hx hb dX6_slant_4 ?_
  obtain ⟨x2, ex2, hF⟩ := ltt_some hF
  refine lv_topi (fun zx2 ezx2 => ?_)
  obtain rfl : x2 = zx2 := ex2.trans ezx2.symm
  refine lv_istore (lv' := [(4, .int x2), (0, .ref (ad a)), (1, .int p0), (2, .int p1), (3, .int p2)]) hx hb dX6_slant_5 hl (by decide) rfl (fun ls hl => ?_)
  refine lv_iload_n hx hb dX6_slant_7 rfl (lv_at hl 2 rfl) ?_
  refine lv_iload_n hx hb dX6_slant_8 rfl (lv_at hl 3 rfl) ?_
  refine lv_iconst (v := (1 : Int32)) hx hb dX6_slant_9 (by decide) ?_
  refine lv_ishr hx hb dX6_slant_10 ?_
  obtain ⟨x3, ex3, hF⟩ := ltt_some hF
  refine lv_topi (fun zx3 ezx3 => ?_)
  obtain rfl : x3 = zx3 := ex3.trans ezx3.symm
  refine lv_isub hx hb dX6_slant_11 ?_
  obtain ⟨x4, ex4, hF⟩ := ltt_some hF
  refine lv_topi (fun zx4 ezx4 => ?_)
  obtain rfl : x4 = zx4 := ex4.trans ezx4.symm
  refine lv_istore (lv' := [(5, .int x4), (4, .int x2), (0, .ref (ad a)), (1, .int p0), (2, .int p1), (3, .int p2)]) hx hb dX6_slant_12 hl (by decide) rfl (fun ls hl => ?_)
  refine lv_iload hx hb dX6_slant_14 (lv_at hl 1 rfl) ?_
  refine lv_if_lt (tgt := 45) hx hb dX6_slant_16 (by decide) (fun c5 => ?_) (fun c5 => ?_)
  · rw [if_pos c5] at hF
    refine lv_iload hx hb dX6_slant_45 (lv_at hl 1 rfl) ?_
    obtain ⟨y6, hy6, hF⟩ := bnd_some hF
    have J6 : ∀ (H : Heap) (locs : List Loc) (ls : Array Slot), va_P D classes (wld ct ad G M) H → va_D A (wld ct ad G M) → va_S A s.heap H locs → lv_has ls 7 [(5, .int x4), (4, .int x2), (0, .ref (ad a)), (1, .int p0), (2, .int p1), (3, .int p2)] → W p l e (headSpec wuX6_slant ({ frames := 1, cells := 0, slots := 0, locals := 23 })).room s m ([.ref (ad a), .int p0, .int p1, .int p2] : List Value).toArray below meth c H locs 0 0 (MQ below (va_Qi (fun (q : Int32) (_ : Unit) => q = y.2) (fun _ t => kE D ct ad G A y.1 t) A) ([.ref (ad a), .int p0, .int p1, .int p2] : List Value).toArray s 0 0 A) (F0 m 68 ls [.int y6]) := by
      intro H locs ls hP hD hS hl
      refine lv_istore (lv' := [(6, .int y6), (5, .int x4), (4, .int x2), (0, .ref (ad a)), (1, .int p0), (2, .int p1), (3, .int p2)]) hx hb dX6_slant_68 hl (by decide) rfl (fun ls hl => ?_)
      refine lv_aload_n hx hb dX6_slant_70 rfl (lv_at hl 3 rfl) ?_
      refine lv_iconst (v := (4 : Int32)) hx hb dX6_slant_71 (by decide) ?_
      refine lv_iload_n hx hb dX6_slant_72 rfl (lv_at hl 6 rfl) ?_
      refine lv_iload hx hb dX6_slant_73 (lv_at hl 0 rfl) ?_
      refine lv_iconst (v := (1 : Int32)) hx hb dX6_slant_75 (by decide) ?_
      refine lv_isub hx hb dX6_slant_76 ?_
      obtain ⟨x7, ex7, hF⟩ := ltt_some hF
      refine lv_topi (fun zx7 ezx7 => ?_)
      obtain rfl : x7 = zx7 := ex7.trans ezx7.symm
      refine lv_imul hx hb dX6_slant_77 ?_
      obtain ⟨x8, ex8, hF⟩ := ltt_some hF
      refine lv_topi (fun zx8 ezx8 => ?_)
      obtain rfl : x8 = zx8 := ex8.trans ezx8.symm
      refine lv_iadd hx hb dX6_slant_78 ?_
      obtain ⟨x9, ex9, hF⟩ := ltt_some hF
      refine lv_topi (fun zx9 ezx9 => ?_)
      obtain rfl : x9 = zx9 := ex9.trans ezx9.symm
      refine lv_iconst (v := (4 : Int32)) hx hb dX6_slant_79 (by decide) ?_
      refine lv_iload_n hx hb dX6_slant_80 rfl (lv_at hl 6 rfl) ?_
      refine lv_iload hx hb dX6_slant_81 (lv_at hl 0 rfl) ?_
      refine lv_imul hx hb dX6_slant_83 ?_
      obtain ⟨x10, ex10, hF⟩ := ltt_some hF
      refine lv_topi (fun zx10 ezx10 => ?_)
      obtain rfl : x10 = zx10 := ex10.trans ezx10.symm
      refine lv_iadd hx hb dX6_slant_84 ?_
      obtain ⟨x11, ex11, hF⟩ := ltt_some hF
      refine lv_topi (fun zx11 ezx11 => ?_)
      obtain rfl : x11 = zx11 := ex11.trans ezx11.symm
      refine lv_iconst (v := (4 : Int32)) hx hb dX6_slant_85 (by decide) ?_
      refine lv_iload_n hx hb dX6_slant_86 rfl (lv_at hl 6 rfl) ?_
      refine lv_iload hx hb dX6_slant_87 (lv_at hl 0 rfl) ?_
      refine lv_iconst (v := (1 : Int32)) hx hb dX6_slant_89 (by decide) ?_
      refine lv_iadd hx hb dX6_slant_90 ?_
      obtain ⟨x12, ex12, hF⟩ := ltt_some hF
      refine lv_topi (fun zx12 ezx12 => ?_)
      obtain rfl : x12 = zx12 := ex12.trans ezx12.symm
      refine lv_imul hx hb dX6_slant_91 ?_
      obtain ⟨x13, ex13, hF⟩ := ltt_some hF
      refine lv_topi (fun zx13 ezx13 => ?_)
      obtain rfl : x13 = zx13 := ex13.trans ezx13.symm
      refine lv_iadd hx hb dX6_slant_92 ?_
      obtain ⟨x14, ex14, hF⟩ := ltt_some hF
      refine lv_topi (fun zx14 ezx14 => ?_)
      obtain rfl : x14 = zx14 := ex14.trans ezx14.symm
      obtain ⟨y15, hy15, hF⟩ := bnd_some hF
      have hf9 := wA_in hD hA9 hS
      refine va_calli (va_runV (As := [.int x9, .int x11, .int x14]) (rest := []) ⟨hx, hb, hml, hown, hts⟩ (kX6_three l D ct ad Z G M H.size a x9 x11 x14 y15 hc hk hy15) (cwV 3 hts gX6_slant_X6_three rfl rfl rfl (by decide +kernel) ⟨Nat.le_of_ble_eq_true rfl, Nat.le_of_ble_eq_true rfl⟩) ⟨fun a U g mk q => by obtain ⟨q0, q1, qP, qK, qD, qZ, qN⟩ := q; exact ⟨q0, q1, qP, va_K.moved (u := U) (U := U.calling g mk a) (Vm.Alike.refl U.vm) qK, qD, sF.moved (u := U) (U := U.calling g mk a) (Vm.Alike.refl U.vm) qZ, nF.same rfl qN⟩, va_recv hK hP (ci := 6) (q0 := a) rfl (wld_o ct ad G M hc hk (by decide)), fun U hU hW => ⟨rfl, by rw [hU], by rw [hU]; exact hP, va_K.moved hW.alike hK, hD.weaken (fun _ _ _ _ => trivial), by rw [hU]; exact ((hZ.kept hS.2.1).narrow hf9).moved hW.alike, hN.warm hW⟩⟩ rfl rfl hl.1 rfl (lv_room (Nat.le_of_ble_eq_true rfl)) dX6_slant_93 ⟨(Nat.zero_le _), (Nat.zero_le _)⟩) hS (fun q _ h => hf9 q h) hf9 (fun r u t H locs ht hvm hw hB hz1 hk1 hS => ?_)
      obtain ⟨hP, hK9, hD9⟩ := hB
      rw [ht] at hP
      try dsimp only at hw
      subst hw
      have hD := hD9.weaken (fun _ q _ h => hf9 q.1 h)
      obtain rfl := Option.some.inj hF
      exact W.iret (v := y15.2) hx hb hr (fun t ht hW => ⟨⟨_, (), rfl, rfl, ⟨by rw [ht]; exact hP, va_K.moved hW.alike hK, hD⟩⟩, hS.F ht⟩) hS.2.2 dX6_slant_96
    clear hF
    have hF := hy6
    clear hy6
    refine lv_if_le (tgt := 55) hx hb dX6_slant_47 (by decide) (fun c16 => ?_) (fun c16 => ?_)
    · rw [if_pos c16] at hF
      refine lv_iload hx hb dX6_slant_55 (lv_at hl 1 rfl) ?_
      refine lv_iconst (v := (-1 : Int32)) hx hb dX6_slant_57 (by decide) ?_
      obtain ⟨y17, hy17, hF⟩ := bnd_some hF
      have J17 : ∀ (H : Heap) (locs : List Loc) (ls : Array Slot), va_P D classes (wld ct ad G M) H → va_D A (wld ct ad G M) → va_S A s.heap H locs → lv_has ls 7 [(5, .int x4), (4, .int x2), (0, .ref (ad a)), (1, .int p0), (2, .int p1), (3, .int p2)] → W p l e (headSpec wuX6_slant ({ frames := 1, cells := 0, slots := 0, locals := 23 })).room s m ([.ref (ad a), .int p0, .int p1, .int p2] : List Value).toArray below meth c H locs 0 0 (MQ below (va_Qi (fun (q : Int32) (_ : Unit) => q = y.2) (fun _ t => kE D ct ad G A y.1 t) A) ([.ref (ad a), .int p0, .int p1, .int p2] : List Value).toArray s 0 0 A) (F0 m 68 ls [.int y17]) := by
        intro H locs ls hP hD hS hl
        obtain rfl := Option.some.inj hF
        exact J6 _ _ _ hP hD hS (lv_sub hl [0, 1, 2, 3, 4, 5] rfl)
      clear hF
      have hF := hy17
      clear hy17
      refine lv_icmp_ne (tgt := 65) hx hb dX6_slant_58 (by decide) (fun c18 => ?_) (fun c18 => ?_)
      · rw [if_neg c18] at hF
        refine lv_iconst (v := (1 : Int32)) hx hb dX6_slant_65 (by decide) ?_
        refine lv_iload_n hx hb dX6_slant_66 rfl (lv_at hl 4 rfl) ?_
        refine lv_isub hx hb dX6_slant_67 ?_
        obtain ⟨x19, ex19, hF⟩ := ltt_some hF
        refine lv_topi (fun zx19 ezx19 => ?_)
        obtain rfl : x19 = zx19 := ex19.trans ezx19.symm
        obtain rfl := Option.some.inj hF
        exact J17 _ _ _ hP hD hS (lv_sub hl [0, 1, 2, 3, 4, 5] rfl)
      · rw [if_pos c18] at hF
        refine lv_iconst (v := (0 : Int32)) hx hb dX6_slant_61 (by decide) ?_
        refine lv_goto (tgt := 68) hx hb dX6_slant_62 (by decide) ?_
        obtain rfl := Option.some.inj hF
        exact J17 _ _ _ hP hD hS (lv_sub hl [0, 1, 2, 3, 4, 5] rfl)
    · rw [if_neg c16] at hF
      refine lv_iload hx hb dX6_slant_50 (lv_at hl 0 rfl) ?_
      refine lv_goto (tgt := 68) hx hb dX6_slant_52 (by decide) ?_
      obtain rfl := Option.some.inj hF
      exact J6 _ _ _ hP hD hS (lv_sub hl [0, 1, 2, 3, 4, 5] rfl)
  · rw [if_neg c5] at hF
    refine lv_iload hx hb dX6_slant_19 (lv_at hl 1 rfl) ?_
    refine lv_iconst (v := (2 : Int32)) hx hb dX6_slant_21 (by decide) ?_
    refine lv_irem hx hb dX6_slant_22 (by decide) ?_
    obtain ⟨x20, ex20, hF⟩ := ltt_some hF
    refine lv_topi (fun zx20 ezx20 => ?_)
    obtain rfl : x20 = zx20 := ex20.trans ezx20.symm
    refine lv_if_ne (tgt := 45) hx hb dX6_slant_23 (by decide) (fun c21 => ?_) (fun c21 => ?_)
    · rw [if_neg c21] at hF
      refine lv_iload hx hb dX6_slant_45 (lv_at hl 1 rfl) ?_
      obtain ⟨y22, hy22, hF⟩ := bnd_some hF
      have J22 : ∀ (H : Heap) (locs : List Loc) (ls : Array Slot), va_P D classes (wld ct ad G M) H → va_D A (wld ct ad G M) → va_S A s.heap H locs → lv_has ls 7 [(5, .int x4), (4, .int x2), (0, .ref (ad a)), (1, .int p0), (2, .int p1), (3, .int p2)] → W p l e (headSpec wuX6_slant ({ frames := 1, cells := 0, slots := 0, locals := 23 })).room s m ([.ref (ad a), .int p0, .int p1, .int p2] : List Value).toArray below meth c H locs 0 0 (MQ below (va_Qi (fun (q : Int32) (_ : Unit) => q = y.2) (fun _ t => kE D ct ad G A y.1 t) A) ([.ref (ad a), .int p0, .int p1, .int p2] : List Value).toArray s 0 0 A) (F0 m 68 ls [.int y22]) := by
        intro H locs ls hP hD hS hl
        refine lv_istore (lv' := [(6, .int y22), (5, .int x4), (4, .int x2), (0, .ref (ad a)), (1, .int p0), (2, .int p1), (3, .int p2)]) hx hb dX6_slant_68 hl (by decide) rfl (fun ls hl => ?_)
        refine lv_aload_n hx hb dX6_slant_70 rfl (lv_at hl 3 rfl) ?_
        refine lv_iconst (v := (4 : Int32)) hx hb dX6_slant_71 (by decide) ?_
        refine lv_iload_n hx hb dX6_slant_72 rfl (lv_at hl 6 rfl) ?_
        refine lv_iload hx hb dX6_slant_73 (lv_at hl 0 rfl) ?_
        refine lv_iconst (v := (1 : Int32)) hx hb dX6_slant_75 (by decide) ?_
        refine lv_isub hx hb dX6_slant_76 ?_
        obtain ⟨x23, ex23, hF⟩ := ltt_some hF
        refine lv_topi (fun zx23 ezx23 => ?_)
        obtain rfl : x23 = zx23 := ex23.trans ezx23.symm
        refine lv_imul hx hb dX6_slant_77 ?_
        obtain ⟨x24, ex24, hF⟩ := ltt_some hF
        refine lv_topi (fun zx24 ezx24 => ?_)
        obtain rfl : x24 = zx24 := ex24.trans ezx24.symm
        refine lv_iadd hx hb dX6_slant_78 ?_
        obtain ⟨x25, ex25, hF⟩ := ltt_some hF
        refine lv_topi (fun zx25 ezx25 => ?_)
        obtain rfl : x25 = zx25 := ex25.trans ezx25.symm
        refine lv_iconst (v := (4 : Int32)) hx hb dX6_slant_79 (by decide) ?_
        refine lv_iload_n hx hb dX6_slant_80 rfl (lv_at hl 6 rfl) ?_
        refine lv_iload hx hb dX6_slant_81 (lv_at hl 0 rfl) ?_
        refine lv_imul hx hb dX6_slant_83 ?_
        obtain ⟨x26, ex26, hF⟩ := ltt_some hF
        refine lv_topi (fun zx26 ezx26 => ?_)
        obtain rfl : x26 = zx26 := ex26.trans ezx26.symm
        refine lv_iadd hx hb dX6_slant_84 ?_
        obtain ⟨x27, ex27, hF⟩ := ltt_some hF
        refine lv_topi (fun zx27 ezx27 => ?_)
        obtain rfl : x27 = zx27 := ex27.trans ezx27.symm
        refine lv_iconst (v := (4 : Int32)) hx hb dX6_slant_85 (by decide) ?_
        refine lv_iload_n hx hb dX6_slant_86 rfl (lv_at hl 6 rfl) ?_
        refine lv_iload hx hb dX6_slant_87 (lv_at hl 0 rfl) ?_
        refine lv_iconst (v := (1 : Int32)) hx hb dX6_slant_89 (by decide) ?_
        refine lv_iadd hx hb dX6_slant_90 ?_
        obtain ⟨x28, ex28, hF⟩ := ltt_some hF
        refine lv_topi (fun zx28 ezx28 => ?_)
        obtain rfl : x28 = zx28 := ex28.trans ezx28.symm
        refine lv_imul hx hb dX6_slant_91 ?_
        obtain ⟨x29, ex29, hF⟩ := ltt_some hF
        refine lv_topi (fun zx29 ezx29 => ?_)
        obtain rfl : x29 = zx29 := ex29.trans ezx29.symm
        refine lv_iadd hx hb dX6_slant_92 ?_
        obtain ⟨x30, ex30, hF⟩ := ltt_some hF
        refine lv_topi (fun zx30 ezx30 => ?_)
        obtain rfl : x30 = zx30 := ex30.trans ezx30.symm
        obtain ⟨y31, hy31, hF⟩ := bnd_some hF
        have hf9 := wA_in hD hA9 hS
        refine va_calli (va_runV (As := [.int x25, .int x27, .int x30]) (rest := []) ⟨hx, hb, hml, hown, hts⟩ (kX6_three l D ct ad Z G M H.size a x25 x27 x30 y31 hc hk hy31) (cwV 3 hts gX6_slant_X6_three rfl rfl rfl (by decide +kernel) ⟨Nat.le_of_ble_eq_true rfl, Nat.le_of_ble_eq_true rfl⟩) ⟨fun a U g mk q => by obtain ⟨q0, q1, qP, qK, qD, qZ, qN⟩ := q; exact ⟨q0, q1, qP, va_K.moved (u := U) (U := U.calling g mk a) (Vm.Alike.refl U.vm) qK, qD, sF.moved (u := U) (U := U.calling g mk a) (Vm.Alike.refl U.vm) qZ, nF.same rfl qN⟩, va_recv hK hP (ci := 6) (q0 := a) rfl (wld_o ct ad G M hc hk (by decide)), fun U hU hW => ⟨rfl, by rw [hU], by rw [hU]; exact hP, va_K.moved hW.alike hK, hD.weaken (fun _ _ _ _ => trivial), by rw [hU]; exact ((hZ.kept hS.2.1).narrow hf9).moved hW.alike, hN.warm hW⟩⟩ rfl rfl hl.1 rfl (lv_room (Nat.le_of_ble_eq_true rfl)) dX6_slant_93 ⟨(Nat.zero_le _), (Nat.zero_le _)⟩) hS (fun q _ h => hf9 q h) hf9 (fun r u t H locs ht hvm hw hB hz1 hk1 hS => ?_)
        obtain ⟨hP, hK9, hD9⟩ := hB
        rw [ht] at hP
        try dsimp only at hw
        subst hw
        have hD := hD9.weaken (fun _ q _ h => hf9 q.1 h)
        obtain rfl := Option.some.inj hF
        exact W.iret (v := y31.2) hx hb hr (fun t ht hW => ⟨⟨_, (), rfl, rfl, ⟨by rw [ht]; exact hP, va_K.moved hW.alike hK, hD⟩⟩, hS.F ht⟩) hS.2.2 dX6_slant_96
      clear hF
      have hF := hy22
      clear hy22
      refine lv_if_le (tgt := 55) hx hb dX6_slant_47 (by decide) (fun c32 => ?_) (fun c32 => ?_)
      · rw [if_pos c32] at hF
        refine lv_iload hx hb dX6_slant_55 (lv_at hl 1 rfl) ?_
        refine lv_iconst (v := (-1 : Int32)) hx hb dX6_slant_57 (by decide) ?_
        obtain ⟨y33, hy33, hF⟩ := bnd_some hF
        have J33 : ∀ (H : Heap) (locs : List Loc) (ls : Array Slot), va_P D classes (wld ct ad G M) H → va_D A (wld ct ad G M) → va_S A s.heap H locs → lv_has ls 7 [(5, .int x4), (4, .int x2), (0, .ref (ad a)), (1, .int p0), (2, .int p1), (3, .int p2)] → W p l e (headSpec wuX6_slant ({ frames := 1, cells := 0, slots := 0, locals := 23 })).room s m ([.ref (ad a), .int p0, .int p1, .int p2] : List Value).toArray below meth c H locs 0 0 (MQ below (va_Qi (fun (q : Int32) (_ : Unit) => q = y.2) (fun _ t => kE D ct ad G A y.1 t) A) ([.ref (ad a), .int p0, .int p1, .int p2] : List Value).toArray s 0 0 A) (F0 m 68 ls [.int y33]) := by
          intro H locs ls hP hD hS hl
          obtain rfl := Option.some.inj hF
          exact J22 _ _ _ hP hD hS (lv_sub hl [0, 1, 2, 3, 4, 5] rfl)
        clear hF
        have hF := hy33
        clear hy33
        refine lv_icmp_ne (tgt := 65) hx hb dX6_slant_58 (by decide) (fun c34 => ?_) (fun c34 => ?_)
        · rw [if_neg c34] at hF
          refine lv_iconst (v := (1 : Int32)) hx hb dX6_slant_65 (by decide) ?_
          refine lv_iload_n hx hb dX6_slant_66 rfl (lv_at hl 4 rfl) ?_
          refine lv_isub hx hb dX6_slant_67 ?_
          obtain ⟨x35, ex35, hF⟩ := ltt_some hF
          refine lv_topi (fun zx35 ezx35 => ?_)
          obtain rfl : x35 = zx35 := ex35.trans ezx35.symm
          obtain rfl := Option.some.inj hF
          exact J33 _ _ _ hP hD hS (lv_sub hl [0, 1, 2, 3, 4, 5] rfl)
        · rw [if_pos c34] at hF
          refine lv_iconst (v := (0 : Int32)) hx hb dX6_slant_61 (by decide) ?_
          refine lv_goto (tgt := 68) hx hb dX6_slant_62 (by decide) ?_
          obtain rfl := Option.some.inj hF
          exact J33 _ _ _ hP hD hS (lv_sub hl [0, 1, 2, 3, 4, 5] rfl)
      · rw [if_neg c32] at hF
        refine lv_iload hx hb dX6_slant_50 (lv_at hl 0 rfl) ?_
        refine lv_goto (tgt := 68) hx hb dX6_slant_52 (by decide) ?_
        obtain rfl := Option.some.inj hF
        exact J22 _ _ _ hP hD hS (lv_sub hl [0, 1, 2, 3, 4, 5] rfl)
    · rw [if_pos c21] at hF
      refine lv_aload_n hx hb dX6_slant_26 rfl (lv_at hl 2 rfl) ?_
      refine lv_iconst (v := (4 : Int32)) hx hb dX6_slant_27 (by decide) ?_
      refine lv_iload_n hx hb dX6_slant_28 rfl (lv_at hl 5 rfl) ?_
      refine lv_iload hx hb dX6_slant_29 (lv_at hl 0 rfl) ?_
      refine lv_imul hx hb dX6_slant_31 ?_
      obtain ⟨x36, ex36, hF⟩ := ltt_some hF
      refine lv_topi (fun zx36 ezx36 => ?_)
      obtain rfl : x36 = zx36 := ex36.trans ezx36.symm
      refine lv_iadd hx hb dX6_slant_32 ?_
      obtain ⟨x37, ex37, hF⟩ := ltt_some hF
      refine lv_topi (fun zx37 ezx37 => ?_)
      obtain rfl : x37 = zx37 := ex37.trans ezx37.symm
      refine lv_iconst (v := (4 : Int32)) hx hb dX6_slant_33 (by decide) ?_
      refine lv_iload_n hx hb dX6_slant_34 rfl (lv_at hl 5 rfl) ?_
      refine lv_iload hx hb dX6_slant_35 (lv_at hl 0 rfl) ?_
      refine lv_iconst (v := (1 : Int32)) hx hb dX6_slant_37 (by decide) ?_
      refine lv_iadd hx hb dX6_slant_38 ?_
      obtain ⟨x38, ex38, hF⟩ := ltt_some hF
      refine lv_topi (fun zx38 ezx38 => ?_)
      obtain rfl : x38 = zx38 := ex38.trans ezx38.symm
      refine lv_imul hx hb dX6_slant_39 ?_
      obtain ⟨x39, ex39, hF⟩ := ltt_some hF
      refine lv_topi (fun zx39 ezx39 => ?_)
      obtain rfl : x39 = zx39 := ex39.trans ezx39.symm
      refine lv_iadd hx hb dX6_slant_40 ?_
      obtain ⟨x40, ex40, hF⟩ := ltt_some hF
      refine lv_topi (fun zx40 ezx40 => ?_)
      obtain rfl : x40 = zx40 := ex40.trans ezx40.symm
      obtain ⟨y41, hy41, hF⟩ := bnd_some hF
      have hf9 := wA_in hD hA9 hS
      refine va_calli (va_runV (As := [.int x37, .int x40]) (rest := []) ⟨hx, hb, hml, hown, hts⟩ (kX6_two l D ct ad Z G M s.heap.size a x37 x40 y41 hc hk hy41) (cwV 2 hts gX6_slant_X6_two rfl rfl rfl (by decide +kernel) ⟨Nat.le_of_ble_eq_true rfl, Nat.le_of_ble_eq_true rfl⟩) ⟨fun a U g mk q => by obtain ⟨q0, q1, qP, qK, qD, qZ, qN⟩ := q; exact ⟨q0, q1, qP, va_K.moved (u := U) (U := U.calling g mk a) (Vm.Alike.refl U.vm) qK, qD, sF.moved (u := U) (U := U.calling g mk a) (Vm.Alike.refl U.vm) qZ, nF.same rfl qN⟩, va_recv hK hP (ci := 6) (q0 := a) rfl (wld_o ct ad G M hc hk (by decide)), fun U hU hW => ⟨rfl, by rw [hU], by rw [hU]; exact hP, va_K.moved hW.alike hK, hD.weaken (fun _ _ _ _ => trivial), by rw [hU]; exact ((hZ.kept hS.2.1).narrow hf9).moved hW.alike, hN.warm hW⟩⟩ rfl rfl hl.1 rfl (lv_room (Nat.le_of_ble_eq_true rfl)) dX6_slant_41 ⟨(Nat.zero_le _), (Nat.zero_le _)⟩) hS (fun q _ h => hf9 q h) hf9 (fun r u t H locs ht hvm hw hB hz1 hk1 hS => ?_)
      obtain ⟨hP, hK9, hD9⟩ := hB
      rw [ht] at hP
      try dsimp only at hw
      subst hw
      have hD := hD9.weaken (fun _ q _ h => hf9 q.1 h)
      obtain rfl := Option.some.inj hF
      exact W.iret (v := y41.2) hx hb hr (fun t ht hW => ⟨⟨_, (), rfl, rfl, ⟨by rw [ht]; exact hP, va_K.moved hW.alike hK, hD⟩⟩, hS.F ht⟩) hS.2.2 dX6_slant_44
