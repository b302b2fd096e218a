set_option maxRecDepth 20000 in
theorem gX7_copyOut_X7_wide : GoodIn wuX7_copyOut (wsV RX7 256 RX7 yX7_wide wuX7_wide) := gu_V mw_1082 mw_1083 mw_1084 mw_170 mw_1085
set_option maxRecDepth 20000 in
set_option maxRecDepth 20000 in
theorem gX7_copyOut_X7_high : GoodIn wuX7_copyOut (wsV RX7 260 RX7 yX7_high wuX7_high) := gu_V mw_1086 mw_1087 mw_1088 mw_170 mw_1089
set_option maxRecDepth 20000 in
set_option maxRecDepth 20000 in
theorem gX7_copyOut_X4_wide : GoodIn wuX7_copyOut (wsV RX7 262 RX4 yX4_wide wuX4_wide) := gu_V mw_1090 mw_930 mw_931 mw_185 mw_932
theorem dX7_copyOut_0 : decode cX7_copyOut 0 = .ok (.aload_n 0, 1) := by decide +kernel
theorem dX7_copyOut_1 : decode cX7_copyOut 1 = .ok (.iload_n 2, 1) := by decide +kernel
theorem dX7_copyOut_2 : decode cX7_copyOut 2 = .ok (.iconst 0, 1) := by decide +kernel
theorem dX7_copyOut_3 : decode cX7_copyOut 3 = .ok (.invokevirtual 256, 3) := by decide +kernel
theorem dX7_copyOut_6 : decode cX7_copyOut 6 = .ok (.aload_n 0, 1) := by decide +kernel
theorem dX7_copyOut_7 : decode cX7_copyOut 7 = .ok (.iload_n 2, 1) := by decide +kernel
theorem dX7_copyOut_8 : decode cX7_copyOut 8 = .ok (.iconst 0, 1) := by decide +kernel
theorem dX7_copyOut_9 : decode cX7_copyOut 9 = .ok (.invokevirtual 260, 3) := by decide +kernel
theorem dX7_copyOut_12 : decode cX7_copyOut 12 = .ok (.imul, 1) := by decide +kernel
theorem dX7_copyOut_13 : decode cX7_copyOut 13 = .ok (.iconst 3, 1) := by decide +kernel
theorem dX7_copyOut_14 : decode cX7_copyOut 14 = .ok (.imul, 1) := by decide +kernel
theorem dX7_copyOut_15 : decode cX7_copyOut 15 = .ok (.iconst 2, 1) := by decide +kernel
theorem dX7_copyOut_16 : decode cX7_copyOut 16 = .ok (.idiv, 1) := by decide +kernel
theorem dX7_copyOut_17 : decode cX7_copyOut 17 = .ok (.istore_n 3, 1) := by decide +kernel
theorem dX7_copyOut_18 : decode cX7_copyOut 18 = .ok (.aload_n 0, 1) := by decide +kernel
theorem dX7_copyOut_19 : decode cX7_copyOut 19 = .ok (.getfield 22, 3) := by decide +kernel
theorem dX7_copyOut_22 : decode cX7_copyOut 22 = .ok (.iload_n 2, 1) := by decide +kernel
theorem dX7_copyOut_23 : decode cX7_copyOut 23 = .ok (.aaload, 1) := by decide +kernel
theorem dX7_copyOut_24 : decode cX7_copyOut 24 = .ok (.arraylength, 1) := by decide +kernel
theorem dX7_copyOut_25 : decode cX7_copyOut 25 = .ok (.iload_n 3, 1) := by decide +kernel
theorem dX7_copyOut_26 : decode cX7_copyOut 26 = .ok (.if_icmp .ge 28, 3) := by decide +kernel
theorem dX7_copyOut_29 : decode cX7_copyOut 29 = .ok (.aload_n 0, 1) := by decide +kernel
theorem dX7_copyOut_30 : decode cX7_copyOut 30 = .ok (.getfield 22, 3) := by decide +kernel
theorem dX7_copyOut_33 : decode cX7_copyOut 33 = .ok (.iload_n 2, 1) := by decide +kernel
theorem dX7_copyOut_34 : decode cX7_copyOut 34 = .ok (.aload_n 0, 1) := by decide +kernel
theorem dX7_copyOut_35 : decode cX7_copyOut 35 = .ok (.getfield 22, 3) := by decide +kernel
theorem dX7_copyOut_38 : decode cX7_copyOut 38 = .ok (.iload_n 2, 1) := by decide +kernel
theorem dX7_copyOut_39 : decode cX7_copyOut 39 = .ok (.aaload, 1) := by decide +kernel
theorem dX7_copyOut_40 : decode cX7_copyOut 40 = .ok (.arraylength, 1) := by decide +kernel
theorem dX7_copyOut_41 : decode cX7_copyOut 41 = .ok (.ifCond .ne 7, 3) := by decide +kernel
theorem dX7_copyOut_44 : decode cX7_copyOut 44 = .ok (.iload_n 3, 1) := by decide +kernel
theorem dX7_copyOut_45 : decode cX7_copyOut 45 = .ok (.goto 6, 3) := by decide +kernel
theorem dX7_copyOut_48 : decode cX7_copyOut 48 = .ok (.sipush 12288, 3) := by decide +kernel
theorem dX7_copyOut_51 : decode cX7_copyOut 51 = .ok (.newarray .int, 2) := by decide +kernel
theorem dX7_copyOut_53 : decode cX7_copyOut 53 = .ok (.aastore, 1) := by decide +kernel
theorem dX7_copyOut_54 : decode cX7_copyOut 54 = .ok (.iconst 0, 1) := by decide +kernel
theorem dX7_copyOut_55 : decode cX7_copyOut 55 = .ok (.istore 4, 2) := by decide +kernel
theorem dX7_copyOut_57 : decode cX7_copyOut 57 = .ok (.iconst 0, 1) := by decide +kernel
theorem dX7_copyOut_58 : decode cX7_copyOut 58 = .ok (.istore 5, 2) := by decide +kernel
theorem dX7_copyOut_60 : decode cX7_copyOut 60 = .ok (.iload 5, 2) := by decide +kernel
theorem dX7_copyOut_62 : decode cX7_copyOut 62 = .ok (.iconst 3, 1) := by decide +kernel
theorem dX7_copyOut_63 : decode cX7_copyOut 63 = .ok (.if_icmp .ge 150, 3) := by decide +kernel
theorem dX7_copyOut_66 : decode cX7_copyOut 66 = .ok (.iload 5, 2) := by decide +kernel
theorem dX7_copyOut_68 : decode cX7_copyOut 68 = .ok (.ifCond .ne 7, 3) := by decide +kernel
theorem dX7_copyOut_71 : decode cX7_copyOut 71 = .ok (.iconst 2, 1) := by decide +kernel
theorem dX7_copyOut_72 : decode cX7_copyOut 72 = .ok (.goto 4, 3) := by decide +kernel
theorem dX7_copyOut_75 : decode cX7_copyOut 75 = .ok (.iconst 1, 1) := by decide +kernel
theorem dX7_copyOut_76 : decode cX7_copyOut 76 = .ok (.istore 6, 2) := by decide +kernel
theorem dX7_copyOut_78 : decode cX7_copyOut 78 = .ok (.aload_n 0, 1) := by decide +kernel
theorem dX7_copyOut_79 : decode cX7_copyOut 79 = .ok (.iload_n 2, 1) := by decide +kernel
theorem dX7_copyOut_80 : decode cX7_copyOut 80 = .ok (.iload 5, 2) := by decide +kernel
theorem dX7_copyOut_82 : decode cX7_copyOut 82 = .ok (.invokevirtual 256, 3) := by decide +kernel
theorem dX7_copyOut_85 : decode cX7_copyOut 85 = .ok (.istore 7, 2) := by decide +kernel
theorem dX7_copyOut_87 : decode cX7_copyOut 87 = .ok (.aload_n 1, 1) := by decide +kernel
theorem dX7_copyOut_88 : decode cX7_copyOut 88 = .ok (.iload 5, 2) := by decide +kernel
theorem dX7_copyOut_90 : decode cX7_copyOut 90 = .ok (.invokevirtual 262, 3) := by decide +kernel
theorem dX7_copyOut_93 : decode cX7_copyOut 93 = .ok (.istore 8, 2) := by decide +kernel
theorem dX7_copyOut_95 : decode cX7_copyOut 95 = .ok (.iload 6, 2) := by decide +kernel
theorem dX7_copyOut_97 : decode cX7_copyOut 97 = .ok (.aload_n 1, 1) := by decide +kernel
theorem dX7_copyOut_98 : decode cX7_copyOut 98 = .ok (.getfield 241, 3) := by decide +kernel
theorem dX7_copyOut_101 : decode cX7_copyOut 101 = .ok (.iconst 2, 1) := by decide +kernel
theorem dX7_copyOut_102 : decode cX7_copyOut 102 = .ok (.iaload, 1) := by decide +kernel
theorem dX7_copyOut_103 : decode cX7_copyOut 103 = .ok (.imul, 1) := by decide +kernel
theorem dX7_copyOut_104 : decode cX7_copyOut 104 = .ok (.iload 8, 2) := by decide +kernel
theorem dX7_copyOut_106 : decode cX7_copyOut 106 = .ok (.imul, 1) := by decide +kernel
theorem dX7_copyOut_107 : decode cX7_copyOut 107 = .ok (.iload 6, 2) := by decide +kernel
theorem dX7_copyOut_109 : decode cX7_copyOut 109 = .ok (.aload_n 1, 1) := by decide +kernel
theorem dX7_copyOut_110 : decode cX7_copyOut 110 = .ok (.getfield 241, 3) := by decide +kernel
theorem dX7_copyOut_113 : decode cX7_copyOut 113 = .ok (.iconst 0, 1) := by decide +kernel
theorem dX7_copyOut_114 : decode cX7_copyOut 114 = .ok (.iaload, 1) := by decide +kernel
theorem dX7_copyOut_115 : decode cX7_copyOut 115 = .ok (.imul, 1) := by decide +kernel
theorem dX7_copyOut_116 : decode cX7_copyOut 116 = .ok (.iadd, 1) := by decide +kernel
theorem dX7_copyOut_117 : decode cX7_copyOut 117 = .ok (.istore 9, 2) := by decide +kernel
theorem dX7_copyOut_119 : decode cX7_copyOut 119 = .ok (.iconst 0, 1) := by decide +kernel
theorem dX7_copyOut_120 : decode cX7_copyOut 120 = .ok (.istore 10, 2) := by decide +kernel
theorem dX7_copyOut_122 : decode cX7_copyOut 122 = .ok (.iload 10, 2) := by decide +kernel
theorem dX7_copyOut_124 : decode cX7_copyOut 124 = .ok (.aload_n 0, 1) := by decide +kernel
theorem dX7_copyOut_125 : decode cX7_copyOut 125 = .ok (.iload_n 2, 1) := by decide +kernel
theorem dX7_copyOut_126 : decode cX7_copyOut 126 = .ok (.iload 5, 2) := by decide +kernel
theorem dX7_copyOut_128 : decode cX7_copyOut 128 = .ok (.invokevirtual 260, 3) := by decide +kernel
theorem dX7_copyOut_131 : decode cX7_copyOut 131 = .ok (.if_icmp .ge 76, 3) := by decide +kernel
theorem dX7_copyOut_134 : decode cX7_copyOut 134 = .ok (.iload 9, 2) := by decide +kernel
theorem dX7_copyOut_136 : decode cX7_copyOut 136 = .ok (.iload 7, 2) := by decide +kernel
theorem dX7_copyOut_138 : decode cX7_copyOut 138 = .ok (.iadd, 1) := by decide +kernel
theorem dX7_copyOut_139 : decode cX7_copyOut 139 = .ok (.aload_n 1, 1) := by decide +kernel
theorem dX7_copyOut_140 : decode cX7_copyOut 140 = .ok (.getfield 265, 3) := by decide +kernel
theorem dX7_copyOut_143 : decode cX7_copyOut 143 = .ok (.iload 5, 2) := by decide +kernel
theorem dX7_copyOut_145 : decode cX7_copyOut 145 = .ok (.aaload, 1) := by decide +kernel
theorem dX7_copyOut_146 : decode cX7_copyOut 146 = .ok (.arraylength, 1) := by decide +kernel
theorem dX7_copyOut_147 : decode cX7_copyOut 147 = .ok (.if_icmp .gt 40, 3) := by decide +kernel
theorem dX7_copyOut_150 : decode cX7_copyOut 150 = .ok (.iload 4, 2) := by decide +kernel
theorem dX7_copyOut_152 : decode cX7_copyOut 152 = .ok (.iload 7, 2) := by decide +kernel
theorem dX7_copyOut_154 : decode cX7_copyOut 154 = .ok (.iadd, 1) := by decide +kernel
theorem dX7_copyOut_155 : decode cX7_copyOut 155 = .ok (.aload_n 0, 1) := by decide +kernel
theorem dX7_copyOut_156 : decode cX7_copyOut 156 = .ok (.getfield 22, 3) := by decide +kernel
theorem dX7_copyOut_159 : decode cX7_copyOut 159 = .ok (.iload_n 2, 1) := by decide +kernel
theorem dX7_copyOut_160 : decode cX7_copyOut 160 = .ok (.aaload, 1) := by decide +kernel
theorem dX7_copyOut_161 : decode cX7_copyOut 161 = .ok (.arraylength, 1) := by decide +kernel
theorem dX7_copyOut_162 : decode cX7_copyOut 162 = .ok (.if_icmp .gt 25, 3) := by decide +kernel
theorem dX7_copyOut_165 : decode cX7_copyOut 165 = .ok (.aload_n 1, 1) := by decide +kernel
theorem dX7_copyOut_166 : decode cX7_copyOut 166 = .ok (.getfield 265, 3) := by decide +kernel
theorem dX7_copyOut_169 : decode cX7_copyOut 169 = .ok (.iload 5, 2) := by decide +kernel
theorem dX7_copyOut_171 : decode cX7_copyOut 171 = .ok (.aaload, 1) := by decide +kernel
theorem dX7_copyOut_172 : decode cX7_copyOut 172 = .ok (.iload 9, 2) := by decide +kernel
theorem dX7_copyOut_174 : decode cX7_copyOut 174 = .ok (.aload_n 0, 1) := by decide +kernel
theorem dX7_copyOut_175 : decode cX7_copyOut 175 = .ok (.getfield 22, 3) := by decide +kernel
theorem dX7_copyOut_178 : decode cX7_copyOut 178 = .ok (.iload_n 2, 1) := by decide +kernel
theorem dX7_copyOut_179 : decode cX7_copyOut 179 = .ok (.aaload, 1) := by decide +kernel
theorem dX7_copyOut_180 : decode cX7_copyOut 180 = .ok (.iload 4, 2) := by decide +kernel
theorem dX7_copyOut_182 : decode cX7_copyOut 182 = .ok (.iload 7, 2) := by decide +kernel
theorem dX7_copyOut_184 : decode cX7_copyOut 184 = .ok (.invokestatic 268, 3) := by decide +kernel
theorem dX7_copyOut_187 : decode cX7_copyOut 187 = .ok (.iload 9, 2) := by decide +kernel
theorem dX7_copyOut_189 : decode cX7_copyOut 189 = .ok (.iload 8, 2) := by decide +kernel
theorem dX7_copyOut_191 : decode cX7_copyOut 191 = .ok (.iadd, 1) := by decide +kernel
theorem dX7_copyOut_192 : decode cX7_copyOut 192 = .ok (.istore 9, 2) := by decide +kernel
theorem dX7_copyOut_194 : decode cX7_copyOut 194 = .ok (.iload 4, 2) := by decide +kernel
theorem dX7_copyOut_196 : decode cX7_copyOut 196 = .ok (.iload 7, 2) := by decide +kernel
theorem dX7_copyOut_198 : decode cX7_copyOut 198 = .ok (.iadd, 1) := by decide +kernel
theorem dX7_copyOut_199 : decode cX7_copyOut 199 = .ok (.istore 4, 2) := by decide +kernel
theorem dX7_copyOut_201 : decode cX7_copyOut 201 = .ok (.iinc 10 1, 3) := by decide +kernel
theorem dX7_copyOut_204 : decode cX7_copyOut 204 = .ok (.goto (-82), 3) := by decide +kernel
theorem dX7_copyOut_207 : decode cX7_copyOut 207 = .ok (.iinc 5 1, 3) := by decide +kernel
theorem dX7_copyOut_210 : decode cX7_copyOut 210 = .ok (.goto (-150), 3) := by decide +kernel
theorem dX7_copyOut_213 : decode cX7_copyOut 213 = .ok (.return_, 1) := by decide +kernel
noncomputable def FX7_copyOut (G : GG) (M : DD) (a : Nat) (p0 : Option Nat) (p1 : Int32) : Option (NN × DD) :=
  bnd (FX7_wide (xt G []) M a p1 ((0 : Int32))) fun y1 =>
  bnd (FX7_high (xt G []) y1.1 a p1 ((0 : Int32))) fun y2 =>
  ltt ((y1.2 * y2.2)) fun x3 =>
  ltt ((x3 * ((3 : Int32)))) fun x4 =>
  ltt (x4 / ((2 : Int32))) fun x5 =>
  dr (xt G []) 15 ((y2.1.2 a 15)) fun b6 =>
  chk (¬ (p1 < 0 ∨ (xt G []).2.2 b6 ≤ p1.toNatClampNeg)) <|
  dr (xt G []) 13 ((y2.1.2 b6 p1.toNatClampNeg)) fun b7 =>
  ltt (Int32.ofNat ((xt G []).2.2 b7)) fun x8 =>
  bnd (if x5 ≤ x8 then (some ([], y2.1)) else
  (chk (¬ (p1 < 0 ∨ (xt G []).2.2 b6 ≤ p1.toNatClampNeg)) <|
  ltt (Int32.ofNat ((xt G []).2.2 b7)) fun x55 =>
  bnd (if x55 = ((0 : Int32)) then (some (x5)) else
  (some ((12288 : Int32)))) fun (y56 : Int32) =>
  chkP (Clo (xt G []) y2.1) <|
  chk (¬ y56 < 0 ∧ y56.toNatClampNeg * 4 ≤ 536870912) <|
  chk (okd (xt G []) p0 = true) <|
  ltt ((xt G []).1) fun c59 =>
  app [(13, y56.toNatClampNeg)] <|
  ltt ([] ++ [(13, y56.toNatClampNeg)]) fun L61 =>
  ltt (rO y2.1 c59) fun M62 =>
  chk (¬ (p1 < 0 ∨ (xt G L61).2.2 b6 ≤ p1.toNatClampNeg)) <|
  ltt (uP M62 b6 p1.toNatClampNeg (some c59)) fun M65 =>
  some ([], M65))) fun (y9 : NN × DD) =>
  app y9.1 <|
  ltt ([] ++ y9.1) fun L11 =>
  bnd (itr (fun (s14 : Int32 × Int32 × DD) => ((if ((3 : Int32)) ≤ s14.2.1 then (some (.inr (s14.1, s14.2.1, s14.2.2))) else
  (bnd (if s14.2.1 = ((0 : Int32)) then (some ((2 : Int32))) else
  (some ((1 : Int32)))) fun (y18 : Int32) =>
  bnd (FX7_wide (xt G L11) s14.2.2 a p1 s14.2.1) fun y19 =>
  dr (xt G L11) 4 p0 fun b20 =>
  bnd (FX4_wide (xt G L11) y19.1 b20 s14.2.1) fun y21 =>
  dr (xt G L11) 13 ((y21.1.2 b20 3)) fun b22 =>
  chk (¬ (((2 : Int32)) < 0 ∨ (xt G L11).2.2 b22 ≤ ((2 : Int32)).toNatClampNeg)) <|
  ltt (y21.1.1 b22 ((2 : Int32)).toNatClampNeg) fun x23 =>
  ltt ((y18 * x23)) fun x24 =>
  ltt ((x24 * y21.2)) fun x25 =>
  chk (¬ (((0 : Int32)) < 0 ∨ (xt G L11).2.2 b22 ≤ ((0 : Int32)).toNatClampNeg)) <|
  ltt (y21.1.1 b22 ((0 : Int32)).toNatClampNeg) fun x26 =>
  ltt ((y18 * x26)) fun x27 =>
  ltt ((x25 + x27)) fun x28 =>
  bnd (itr (fun (s30 : Int32 × Int32 × Int32 × DD) => ((bnd (FX7_high (xt G L11) s30.2.2.2 a p1 s14.2.1) fun y34 =>
  if y34.2 ≤ s30.2.2.1 then (some (.inr (s30.1, s30.2.1, s30.2.2.1, y34.1))) else
  (ltt ((s30.2.1 + y19.2)) fun x36 =>
  dr (xt G L11) 15 ((y34.1.2 b20 4)) fun b37 =>
  chk (¬ (s14.2.1 < 0 ∨ (xt G L11).2.2 b37 ≤ s14.2.1.toNatClampNeg)) <|
  dr (xt G L11) 13 ((y34.1.2 b37 s14.2.1.toNatClampNeg)) fun b38 =>
  ltt (Int32.ofNat ((xt G L11).2.2 b38)) fun x39 =>
  bnd (if x39 < x36 then (some (y34.1)) else
  (ltt ((s30.1 + y19.2)) fun x45 =>
  dr (xt G L11) 15 ((y34.1.2 a 15)) fun b46 =>
  chk (¬ (p1 < 0 ∨ (xt G L11).2.2 b46 ≤ p1.toNatClampNeg)) <|
  dr (xt G L11) 13 ((y34.1.2 b46 p1.toNatClampNeg)) fun b47 =>
  ltt (Int32.ofNat ((xt G L11).2.2 b47)) fun x48 =>
  bnd (if x48 < x45 then (some (y34.1)) else
  (chk (¬ (s14.2.1 < 0 ∨ (xt G L11).2.2 b37 ≤ s14.2.1.toNatClampNeg)) <|
  chk (¬ (p1 < 0 ∨ (xt G L11).2.2 b46 ≤ p1.toNatClampNeg)) <|
  chk (¬ s30.2.1 < 0 ∧ ¬ s30.1 < 0 ∧ ¬ y19.2 < 0 ∧ s30.2.1.toNatClampNeg + y19.2.toNatClampNeg ≤ (xt G L11).2.2 b38 ∧ s30.1.toNatClampNeg + y19.2.toNatClampNeg ≤ (xt G L11).2.2 b47) <|
  ltt (rI y34.1 b47 (va_cpy (y34.1.1 b38) (y34.1.1 b47) s30.2.1.toNatClampNeg s30.1.toNatClampNeg y19.2.toNatClampNeg)) fun M51 =>
  some (M51))) fun (y49 : DD) =>
  some (y49))) fun (y40 : DD) =>
  ltt ((s30.2.1 + y21.2)) fun x41 =>
  ltt ((s30.1 + y19.2)) fun x42 =>
  ltt (s30.2.2.1 + (1 : Int32)) fun x43 =>
  some (.inl (x42, x41, x43, y40)))) : Option ((Int32 × Int32 × Int32 × DD) ⊕ (Int32 × Int32 × Int32 × DD)))) 1000000 (s14.1, x28, (0 : Int32), y21.1)) fun (y29 : Int32 × Int32 × Int32 × DD) =>
  ltt (s14.2.1 + (1 : Int32)) fun x32 =>
  some (.inl (y29.1, x32, y29.2.2.2)))) : Option ((Int32 × Int32 × DD) ⊕ (Int32 × Int32 × DD)))) 1000000 ((0 : Int32), (0 : Int32), y9.2)) fun (y13 : Int32 × Int32 × DD) =>
  some ([], y13.2.2)
set_option maxHeartbeats 4000000 in
set_option maxRecDepth 100000 in
theorem kX7_copyOut (l : Launch) (D : va_G) (ct : CT) (ad : Nat → Nat) (Z : Nat → Nat) (G : GG) (M : DD) (sz : Nat) (a : Nat) (p0 : Option Nat) (p1 : Int32) (y : NN × DD) (hc : a < G.1) (hk : G.2.1 a = 7) (hF : FX7_copyOut G M a p0 p1 = some y) : Met l yX7_copyOut wuX7_copyOut ({ frames := 1, cells := y.1.length, slots := wt y.1, locals := 80 }) (va_Pc [.ref (ad a), va_re ad p0, .int p1] (kB D ct ad Z G M sz)) (va_Qv (fun (u : Nat → Nat) => agr G.1 ad u) (fun u t => kE D ct u (xt G y.1) (wA ad G sz) y.2 t) (wA ad G sz)) y.1.length (wt y.1) (wA ad G sz) := by
  refine Met.ofW (cc := cX7_copyOut) (maxL := 11) (ret := none) (by decide) rfl ?_
  intro p e s m args below meth c s₁ B hml hv
  obtain ⟨rfl, hsz, hP, hK, hD0, hZ, hN⟩ := hv
  have hx := B.exec
  have hb := B.bytes
  have hr := B.returns
  have hts := atoms_spec (ws := wuX7_copyOut) B.pre
  have hown : s.vm.findClass RX7 = some m.cls := findClass_of_methodNamed B.named
  have hlocks := B.notSynchronized
  subst hsz
  have hD := wD_self (sz := s.heap.size) hD0
  have hA9 : ∀ q, s.heap.size ≤ q → wA ad G s.heap.size q := fun q h => Or.inr h
  generalize hAe : wA ad G s.heap.size = A at hD hA9 hZ ⊢
  have hS : va_S A s.heap s.heap [] := va_S.rf
  have hl := lv_entry ([.ref (ad a), va_re ad p0, .int p1]) (n := 11) (by cases p0 <;> exact Nat.le_of_ble_eq_true rfl)
  rw [lg_entry_eq]
  generalize (lg_sl ([.ref (ad a), va_re ad p0, .int p1]) ++ List.replicate (11 - (lg_sl ([.ref (ad a), va_re ad p0, .int p1])).length) Slot.unset).toArray = ls at hl ⊢
  have hl : lv_has ls 11 [(0, .ref (ad a)), (1, va_re ad p0), (2, .int p1)] := by have e9 : lv_args 0 [.ref (ad a), va_re ad p0, .int p1] = [(0, .ref (ad a)), (1, va_re ad p0), (2, .int p1)] := (by cases p0 <;> rfl); rw [e9] at hl; exact hl
  unfold FX7_copyOut at hF
  rw [← wld_0 ct ad G M] at hP hD
  have hk := xt_k0 hc hk
  have hc := xt_l0 hc
  have hag := agr_rf G.1 ad
  obtain ⟨w0, hw0⟩ : ∃ z, z = y := ⟨_, rfl⟩
  rw [← hw0] at hF
  have hT : y.1 = [] ++ w0.1 := by rw [hw0]; rfl
  have h2 : y.2 = w0.2 := by rw [hw0]
  have hbl : y.1.length ≤ y.1.length ∧ wt y.1 ≤ wt y.1 := ⟨Nat.le_refl _, Nat.le_refl _⟩
  refine lv_aload_n hx hb dX7_copyOut_0 rfl (lv_at hl 0 rfl) ?_
  refine lv_iload_n hx hb dX7_copyOut_1 rfl (lv_at hl 2 rfl) ?_
  refine lv_iconst (v := (0 : Int32)) hx hb dX7_copyOut_2 (by decide) ?_
  obtain ⟨y1, hy1, hF⟩ := bnd_some hF
  have hf9 := wA_in hD hA9 hS
  refine va_calli (va_runV (As := [.int p1, .int (0 : Int32)]) (rest := []) ⟨hx, hb, hml, hown, hts⟩ (kX7_wide l D ct ad Z (xt G []) M s.heap.size a p1 ((0 : Int32)) y1 hc hk hy1) (cwV 2 hts gX7_copyOut_X7_wide rfl rfl rfl (by decide +kernel) ⟨Nat.le_of_ble_eq_true rfl, Nat.le_of_ble_eq_true rfl⟩) ⟨fun a U g mk q => by obtain ⟨q0, q1, qP, qK, qD, qZ, qN⟩ := q; exact ⟨q0, q1, qP, va_K.moved (u := U) (U := U.calling g mk a) (Vm.Alike.refl U.vm) qK, qD, sF.moved (u := U) (U := U.calling g mk a) (Vm.Alike.refl U.vm) qZ, nF.same rfl qN⟩, va_recv hK hP (ci := 7) (q0 := a) rfl (wld_o ct ad (xt G []) M hc hk (by decide)), fun U hU hW => ⟨rfl, by rw [hU], by rw [hU]; exact hP, va_K.moved hW.alike hK, hD.weaken (fun _ _ _ _ => trivial), by rw [hU]; exact ((hZ.kept hS.2.1).narrow hf9).moved hW.alike, hN.warm hW⟩⟩ rfl rfl hl.1 rfl (lv_room (Nat.le_of_ble_eq_true rfl)) dX7_copyOut_3 (room_d hT hbl)) hS (fun q _ h => hf9 q h) hf9 (fun r u t H locs ht hvm hw hB hz1 hk1 hS => ?_)
  obtain ⟨hP, hK9, hD9⟩ := hB
  rw [ht] at hP
  try dsimp only at hw
  subst hw
  refine W_cs (k := ([] : NN).length) (n := wt []) rfl rfl ?_
  have hD := hD9.weaken (fun _ q _ h => hf9 q.1 h)
  refine lv_aload_n hx hb dX7_copyOut_6 rfl (lv_at hl 0 rfl) ?_
  refine lv_iload_n hx hb dX7_copyOut_7 rfl (lv_at hl 2 rfl) ?_
  refine lv_iconst (v := (0 : Int32)) hx hb dX7_copyOut_8 (by decide) ?_
  obtain ⟨y2, hy2, hF⟩ := bnd_some hF
  have hf9 := wA_in hD hA9 hS
  refine va_calli (va_runV (As := [.int p1, .int (0 : Int32)]) (rest := [.int y1.2]) ⟨hx, hb, hml, hown, hts⟩ (kX7_high l D ct ad Z (xt G []) y1.1 H.size a p1 ((0 : Int32)) y2 hc hk hy2) (cwV 2 hts gX7_copyOut_X7_high rfl rfl rfl (by decide +kernel) ⟨Nat.le_of_ble_eq_true rfl, Nat.le_of_ble_eq_true rfl⟩) ⟨fun a U g mk q => by obtain ⟨q0, q1, qP, qK, qD, qZ, qN⟩ := q; exact ⟨q0, q1, qP, va_K.moved (u := U) (U := U.calling g mk a) (Vm.Alike.refl U.vm) qK, qD, sF.moved (u := U) (U := U.calling g mk a) (Vm.Alike.refl U.vm) qZ, nF.same rfl qN⟩, va_recv hK hP (ci := 7) (q0 := a) rfl (wld_o ct ad (xt G []) y1.1 hc hk (by decide)), fun U hU hW => ⟨rfl, by rw [hU], by rw [hU]; exact hP, va_K.moved hW.alike hK, hD.weaken (fun _ _ _ _ => trivial), by rw [hU]; exact ((hZ.kept hS.2.1).narrow hf9).moved hW.alike, hN.warm hW⟩⟩ rfl rfl hl.1 rfl (lv_room (Nat.le_of_ble_eq_true rfl)) dX7_copyOut_9 (room_d hT hbl)) hS (fun q _ h => hf9 q h) hf9 (fun r u t H locs ht hvm hw hB hz1 hk1 hS => ?_)
  obtain ⟨hP, hK9, hD9⟩ := hB
  rw [ht] at hP
  try dsimp only at hw
  subst hw
  refine W_cs (k := ([] : NN).length) (n := wt []) rfl rfl ?_
  have hD := hD9.weaken (fun _ q _ h => hf9 q.1 h)
  refine lv_imul hx hb dX7_copyOut_12 ?_
  obtain ⟨x3, ex3, hF⟩ := ltt_some hF
  refine lv_topi (fun zx3 ezx3 => ?_)
  obtain rfl : x3 = zx3 := ex3.trans ezx3.symm
  refine lv_iconst (v := (3 : Int32)) hx hb dX7_copyOut_13 (by decide) ?_
  refine lv_imul hx hb dX7_copyOut_14 ?_
  obtain ⟨x4, ex4, hF⟩ := ltt_some hF
  refine lv_topi (fun zx4 ezx4 => ?_)
  obtain rfl : x4 = zx4 := ex4.trans ezx4.symm
  refine lv_iconst (v := (2 : Int32)) hx hb dX7_copyOut_15 (by decide) ?_
  refine lv_idiv hx hb dX7_copyOut_16 (by decide) ?_
  obtain ⟨x5, ex5, hF⟩ := ltt_some hF
  refine lv_topi (fun zx5 ezx5 => ?_)
  obtain rfl : x5 = zx5 := ex5.trans ezx5.symm
  refine lv_istore_n (lv' := [(3, .int x5), (0, .ref (ad a)), (1, va_re ad p0), (2, .int p1)]) hx hb dX7_copyOut_17 rfl hl (by decide) rfl (fun ls hl => ?_)
  refine lv_aload_n hx hb dX7_copyOut_18 rfl (lv_at hl 1 rfl) ?_
  refine va_get (D := D) (ci := 7) (v := va_re ad (y2.1.2 a 15)) (C := RX7) (T := TX7) (N := 17) hx hb hts (mus hf_X7) hown hK hP a (wld_o ct ad (xt G []) y2.1 hc hk (by decide)) rfl 15 (by decide) (hts (.fieldLink RX7 22 "VideoSuite$Store" "outSample" "[[I") (mu mw_375)) (fun _ h9 => h9) rfl dX7_copyOut_19 ?_
  refine lv_iload_n hx hb dX7_copyOut_22 rfl (lv_at hl 3 rfl) ?_
  obtain ⟨b6, ho6, hc6, hk6, hF⟩ := dr_some hF
  refine W_st (st' := [.int p1, .ref (ad b6)]) (by rw [va_some ho6]) ?_
  obtain ⟨hvc, hF⟩ := chk_some hF
  refine ld_g hx hb hK hP hc6 hk6 hvc dX7_copyOut_23 ?_
  obtain ⟨b7, ho7, hc7, hk7, hF⟩ := dr_some hF
  refine W_st (st' := [.ref (ad b7)]) (by rw [va_some ho7]) ?_
  refine va_alen (v := Int32.ofNat ((xt G []).2.2 b7)) hx hb hK hP b7 1 (wld_i ct ad (xt G []) y2.1 hc7 hk7) rfl rfl dX7_copyOut_24 ?_
  obtain ⟨x8, ex8, hF⟩ := ltt_some hF
  refine lv_topi (fun zx8 ezx8 => ?_)
  obtain rfl : x8 = zx8 := ex8.trans ezx8.symm
  refine lv_iload_n hx hb dX7_copyOut_25 rfl (lv_at hl 0 rfl) ?_
  obtain ⟨y9, hy9, hF⟩ := bnd_some hF
  obtain ⟨w10, hF, ew10⟩ := app_some hF
  obtain ⟨L11, eL11, hF⟩ := ltt_some hF
  have hT11 : y.1 = ([] ++ y9.1) ++ w10.1 := by rw [hT, ew10]; simp only [List.append_assoc]
  have hbl11 : L11.length ≤ y.1.length ∧ wt L11 ≤ wt y.1 := by rw [eL11]; exact room_d hT11 hbl
  have J9 : ∀ (ad12 : Nat → Nat), agr G.1 ad ad12 → ∀ (H : Heap) (locs : List Loc) (ls : Array Slot), va_P D classes (wld ct ad12 (xt G L11) y9.2) H → va_D A (wld ct ad12 (xt G L11) y9.2) → va_S A s.heap H locs → lv_has ls 11 [(0, .ref (ad12 a)), (1, va_re ad12 p0), (2, .int p1)] → W p l e (headSpec wuX7_copyOut ({ frames := 1, cells := y.1.length, slots := wt y.1, locals := 80 })).room s m ([.ref (ad a), va_re ad p0, .int p1] : List Value).toArray below meth c H locs (L11 : NN).length (wt L11) (MQ below (va_Qv (fun (u : Nat → Nat) => agr G.1 ad u) (fun u t => kE D ct u (xt G y.1) A y.2 t) A) ([.ref (ad a), va_re ad p0, .int p1] : List Value).toArray s y.1.length (wt y.1) A) (F0 m 54 ls []) := by
    intro ad12 hag H locs ls hP hD hS hl
    have hT : y.1 = L11 ++ w10.1 := by rw [hT11, eL11]
    have h2 : y.2 = w10.2 := by rw [h2, ew10]
    have hk : (xt G L11).2.1 a = 7 := by rw [eL11]; exact xt_k _ hc hk
    have hc : a < (xt G L11).1 := by rw [eL11]; exact xt_l _ hc
    have hk6 : (xt G L11).2.1 b6 = 15 := by rw [eL11]; exact xt_k _ hc6 hk6
    have hc6 : b6 < (xt G L11).1 := by rw [eL11]; exact xt_l _ hc6
    have hk7 : (xt G L11).2.1 b7 = 13 := by rw [eL11]; exact xt_k _ hc7 hk7
    have hc7 : b7 < (xt G L11).1 := by rw [eL11]; exact xt_l _ hc7
    refine lv_iconst (v := (0 : Int32)) hx hb dX7_copyOut_54 (by decide) ?_
    refine lv_istore (lv' := [(4, .int (0 : Int32)), (0, .ref (ad12 a)), (1, va_re ad12 p0), (2, .int p1)]) hx hb dX7_copyOut_55 hl (by decide) rfl (fun ls hl => ?_)
    refine lv_iconst (v := (0 : Int32)) hx hb dX7_copyOut_57 (by decide) ?_
    refine lv_istore (lv' := [(5, .int (0 : Int32)), (4, .int (0 : Int32)), (0, .ref (ad12 a)), (1, va_re ad12 p0), (2, .int p1)]) hx hb dX7_copyOut_58 hl (by decide) rfl (fun ls hl => ?_)
    obtain ⟨y13, hy13, hF⟩ := bnd_some hF
    have K13 : ∀ (H : Heap) (locs : List Loc) (ls : Array Slot), va_P D classes (wld ct ad12 (xt G L11) y13.2.2) H → va_D A (wld ct ad12 (xt G L11) y13.2.2) → va_S A s.heap H locs → lv_has ls 11 [(5, .int y13.2.1), (4, .int y13.1), (0, .ref (ad12 a)), (1, va_re ad12 p0), (2, .int p1)] → W p l e (headSpec wuX7_copyOut ({ frames := 1, cells := y.1.length, slots := wt y.1, locals := 80 })).room s m ([.ref (ad a), va_re ad p0, .int p1] : List Value).toArray below meth c H locs (L11 : NN).length (wt L11) (MQ below (va_Qv (fun (u : Nat → Nat) => agr G.1 ad u) (fun u t => kE D ct u (xt G y.1) A y.2 t) A) ([.ref (ad a), va_re ad p0, .int p1] : List Value).toArray s y.1.length (wt y.1) A) (F0 m 213 ls []) := by
      intro H locs ls hP hD hS hl
      obtain rfl := Option.some.inj hF
      have e1 : y.1 = L11 := by rw [hT]; exact List.append_nil _
      have e2 : y.2 = y13.2.2 := h2
      refine W.widen (k := y.1.length) (n := wt y.1) (Nat.le_of_eq (by rw [e1])) (Nat.le_of_eq (by rw [e1])) ?_
      exact W.vret hx hb hr (fun t ht hW => ⟨⟨ad12, rfl, hag, (by unfold kE; rw [e1, e2]; exact ⟨by rw [ht]; exact hP, va_K.moved hW.alike hK, hD⟩)⟩, hS.F ht⟩) hS.2.2 dX7_copyOut_213
    clear hF
    refine itr_rule (fun (s14 : Int32 × Int32 × DD) => ∀ (H : Heap) (locs : List Loc) (ls : Array Slot), va_P D classes (wld ct ad12 (xt G L11) s14.2.2) H → va_D A (wld ct ad12 (xt G L11) s14.2.2) → va_S A s.heap H locs → lv_has ls 11 [(5, .int s14.2.1), (4, .int s14.1), (0, .ref (ad12 a)), (1, va_re ad12 p0), (2, .int p1)] → W p l e (headSpec wuX7_copyOut ({ frames := 1, cells := y.1.length, slots := wt y.1, locals := 80 })).room s m ([.ref (ad a), va_re ad p0, .int p1] : List Value).toArray below meth c H locs (L11 : NN).length (wt L11) (MQ below (va_Qv (fun (u : Nat → Nat) => agr G.1 ad u) (fun u t => kE D ct u (xt G y.1) A y.2 t) A) ([.ref (ad a), va_re ad p0, .int p1] : List Value).toArray s y.1.length (wt y.1) A) (F0 m 60 ls [])) ?_ _ _ hy13 _ _ _ hP hD hS (lv_sub hl [0, 1, 2, 3, 4] rfl)
    rintro s14 ⟨z16, hF, hwz16⟩ H locs ls hP hD hS hl
    try dsimp only at hF
    refine lv_iload hx hb dX7_copyOut_60 (lv_at hl 0 rfl) ?_
    refine lv_iconst (v := (3 : Int32)) hx hb dX7_copyOut_62 (by decide) ?_
    refine lv_icmp_ge (tgt := 213) hx hb dX7_copyOut_63 (by decide) (fun c17 => ?_) (fun c17 => ?_)
    · rw [if_pos c17] at hF
      obtain rfl := Option.some.inj hF
      subst hwz16
      exact K13 _ _ _ hP hD hS (lv_sub hl [0, 1, 2, 3, 4] rfl)
    · rw [if_neg c17] at hF
      refine lv_iload hx hb dX7_copyOut_66 (lv_at hl 0 rfl) ?_
      obtain ⟨y18, hy18, hF⟩ := bnd_some hF
      have J18 : ∀ (H : Heap) (locs : List Loc) (ls : Array Slot), va_P D classes (wld ct ad12 (xt G L11) s14.2.2) H → va_D A (wld ct ad12 (xt G L11) s14.2.2) → va_S A s.heap H locs → lv_has ls 11 [(5, .int s14.2.1), (4, .int s14.1), (0, .ref (ad12 a)), (1, va_re ad12 p0), (2, .int p1)] → W p l e (headSpec wuX7_copyOut ({ frames := 1, cells := y.1.length, slots := wt y.1, locals := 80 })).room s m ([.ref (ad a), va_re ad p0, .int p1] : List Value).toArray below meth c H locs (L11 : NN).length (wt L11) (MQ below (va_Qv (fun (u : Nat → Nat) => agr G.1 ad u) (fun u t => kE D ct u (xt G y.1) A y.2 t) A) ([.ref (ad a), va_re ad p0, .int p1] : List Value).toArray s y.1.length (wt y.1) A) (F0 m 76 ls [.int y18]) := by
        intro H locs ls hP hD hS hl
        refine lv_istore (lv' := [(6, .int y18), (5, .int s14.2.1), (4, .int s14.1), (0, .ref (ad12 a)), (1, va_re ad12 p0), (2, .int p1)]) hx hb dX7_copyOut_76 hl (by decide) rfl (fun ls hl => ?_)
        refine lv_aload_n hx hb dX7_copyOut_78 rfl (lv_at hl 3 rfl) ?_
        refine lv_iload_n hx hb dX7_copyOut_79 rfl (lv_at hl 5 rfl) ?_
        refine lv_iload hx hb dX7_copyOut_80 (lv_at hl 1 rfl) ?_
        obtain ⟨y19, hy19, hF⟩ := bnd_some hF
        have hf9 := wA_in hD hA9 hS
        refine va_calli (va_runV (As := [.int p1, .int s14.2.1]) (rest := []) ⟨hx, hb, hml, hown, hts⟩ (kX7_wide l D ct ad12 Z (xt G L11) s14.2.2 H.size a p1 s14.2.1 y19 hc hk hy19) (cwV 2 hts gX7_copyOut_X7_wide rfl rfl rfl (by decide +kernel) ⟨Nat.le_of_ble_eq_true rfl, Nat.le_of_ble_eq_true rfl⟩) ⟨fun a U g mk q => by obtain ⟨q0, q1, qP, qK, qD, qZ, qN⟩ := q; exact ⟨q0, q1, qP, va_K.moved (u := U) (U := U.calling g mk a) (Vm.Alike.refl U.vm) qK, qD, sF.moved (u := U) (U := U.calling g mk a) (Vm.Alike.refl U.vm) qZ, nF.same rfl qN⟩, va_recv hK hP (ci := 7) (q0 := a) rfl (wld_o ct ad12 (xt G L11) s14.2.2 hc hk (by decide)), fun U hU hW => ⟨rfl, by rw [hU], by rw [hU]; exact hP, va_K.moved hW.alike hK, hD.weaken (fun _ _ _ _ => trivial), by rw [hU]; exact ((hZ.kept hS.2.1).narrow hf9).moved hW.alike, hN.warm hW⟩⟩ rfl rfl hl.1 rfl (lv_room (Nat.le_of_ble_eq_true rfl)) dX7_copyOut_82 (room_d hT hbl)) hS (fun q _ h => hf9 q h) hf9 (fun r u t H locs ht hvm hw hB hz1 hk1 hS => ?_)
        obtain ⟨hP, hK9, hD9⟩ := hB
        rw [ht] at hP
        try dsimp only at hw
        subst hw
        refine W_cs (k := (L11 : NN).length) (n := wt L11) rfl rfl ?_
        have hD := hD9.weaken (fun _ q _ h => hf9 q.1 h)
        refine lv_istore (lv' := [(7, .int y19.2), (6, .int y18), (5, .int s14.2.1), (4, .int s14.1), (0, .ref (ad12 a)), (1, va_re ad12 p0), (2, .int p1)]) hx hb dX7_copyOut_85 hl (by decide) rfl (fun ls hl => ?_)
        refine lv_aloadq_n hx hb dX7_copyOut_87 rfl (lv_at hl 5 rfl) ?_
        refine lv_iload hx hb dX7_copyOut_88 (lv_at hl 2 rfl) ?_
        obtain ⟨b20, ho20, hc20, hk20, hF⟩ := dr_some hF
        refine W_st (st' := [.int s14.2.1, .ref (ad12 b20)]) (by rw [va_some ho20]) ?_
        obtain ⟨y21, hy21, hF⟩ := bnd_some hF
        have hf9 := wA_in hD hA9 hS
        refine va_calli (va_runV (As := [.int s14.2.1]) (rest := []) ⟨hx, hb, hml, hown, hts⟩ (kX4_wide l D ct ad12 Z (xt G L11) y19.1 H.size b20 s14.2.1 y21 hc20 hk20 hy21) (cwV 1 hts gX7_copyOut_X4_wide rfl rfl rfl (by decide +kernel) ⟨Nat.le_of_ble_eq_true rfl, Nat.le_of_ble_eq_true rfl⟩) ⟨fun a U g mk q => by obtain ⟨q0, q1, qP, qK, qD, qZ, qN⟩ := q; exact ⟨q0, q1, qP, va_K.moved (u := U) (U := U.calling g mk a) (Vm.Alike.refl U.vm) qK, qD, sF.moved (u := U) (U := U.calling g mk a) (Vm.Alike.refl U.vm) qZ, nF.same rfl qN⟩, va_recv hK hP (ci := 4) (q0 := b20) rfl (wld_o ct ad12 (xt G L11) y19.1 hc20 hk20 (by decide)), fun U hU hW => ⟨rfl, by rw [hU], by rw [hU]; exact hP, va_K.moved hW.alike hK, hD.weaken (fun _ _ _ _ => trivial), by rw [hU]; exact ((hZ.kept hS.2.1).narrow hf9).moved hW.alike, hN.warm hW⟩⟩ rfl rfl hl.1 rfl (lv_room (Nat.le_of_ble_eq_true rfl)) dX7_copyOut_90 (room_d hT hbl)) hS (fun q _ h => hf9 q h) hf9 (fun r u t H locs ht hvm hw hB hz1 hk1 hS => ?_)
        obtain ⟨hP, hK9, hD9⟩ := hB
        rw [ht] at hP
        try dsimp only at hw
        subst hw
        refine W_cs (k := (L11 : NN).length) (n := wt L11) rfl rfl ?_
        have hD := hD9.weaken (fun _ q _ h => hf9 q.1 h)
        refine lv_istore (lv' := [(8, .int y21.2), (7, .int y19.2), (6, .int y18), (5, .int s14.2.1), (4, .int s14.1), (0, .ref (ad12 a)), (1, va_re ad12 p0), (2, .int p1)]) hx hb dX7_copyOut_93 hl (by decide) rfl (fun ls hl => ?_)
        refine lv_iload hx hb dX7_copyOut_95 (lv_at hl 2 rfl) ?_
        refine lv_aloadq_n hx hb dX7_copyOut_97 rfl (lv_at hl 6 rfl) ?_
        refine W_st (st' := [.ref (ad12 b20), .int y18]) (by rw [va_some ho20]) ?_
        refine va_get (D := D) (ci := 4) (v := va_re ad12 (y21.1.2 b20 3)) (C := RX4) (T := TX4) (N := 18) hx hb hts (mus hf_X4) hown hK hP b20 (wld_o ct ad12 (xt G L11) y21.1 hc20 hk20 (by decide)) rfl 3 (by decide) (hts (.fieldLink RX7 241 "VideoSuite$Picture" "crop" "[I") (mu mw_1430)) (fun _ h9 => h9) rfl dX7_copyOut_98 ?_
        refine lv_iconst (v := (2 : Int32)) hx hb dX7_copyOut_101 (by decide) ?_
        obtain ⟨b22, ho22, hc22, hk22, hF⟩ := dr_some hF
        refine W_st (st' := [.int (2 : Int32), .ref (ad12 b22), .int y18]) (by rw [va_some ho22]) ?_
        obtain ⟨hvc, hF⟩ := chk_some hF
        refine va_iald hx hb hK hP b22 1 (wld_i ct ad12 (xt G L11) y21.1 hc22 hk22) rfl hvc dX7_copyOut_102 ?_
        obtain ⟨x23, ex23, hF⟩ := ltt_some hF
        refine lv_topi (fun zx23 ezx23 => ?_)
        obtain rfl : x23 = zx23 := ex23.trans ezx23.symm
        refine lv_imul hx hb dX7_copyOut_103 ?_
        obtain ⟨x24, ex24, hF⟩ := ltt_some hF
        refine lv_topi (fun zx24 ezx24 => ?_)
        obtain rfl : x24 = zx24 := ex24.trans ezx24.symm
        refine lv_iload hx hb dX7_copyOut_104 (lv_at hl 0 rfl) ?_
        refine lv_imul hx hb dX7_copyOut_106 ?_
        obtain ⟨x25, ex25, hF⟩ := ltt_some hF
        refine lv_topi (fun zx25 ezx25 => ?_)
        obtain rfl : x25 = zx25 := ex25.trans ezx25.symm
        refine lv_iload hx hb dX7_copyOut_107 (lv_at hl 2 rfl) ?_
        refine lv_aloadq_n hx hb dX7_copyOut_109 rfl (lv_at hl 6 rfl) ?_
        refine W_st (st' := [.ref (ad12 b20), .int y18, .int x25]) (by rw [va_some ho20]) ?_
        refine va_get (D := D) (ci := 4) (v := va_re ad12 (y21.1.2 b20 3)) (C := RX4) (T := TX4) (N := 18) hx hb hts (mus hf_X4) hown hK hP b20 (wld_o ct ad12 (xt G L11) y21.1 hc20 hk20 (by decide)) rfl 3 (by decide) (hts (.fieldLink RX7 241 "VideoSuite$Picture" "crop" "[I") (mu mw_1430)) (fun _ h9 => h9) rfl dX7_copyOut_110 ?_
        refine lv_iconst (v := (0 : Int32)) hx hb dX7_copyOut_113 (by decide) ?_
        refine W_st (st' := [.int (0 : Int32), .ref (ad12 b22), .int y18, .int x25]) (by rw [va_some ho22]) ?_
        obtain ⟨hvc, hF⟩ := chk_some hF
        refine va_iald hx hb hK hP b22 1 (wld_i ct ad12 (xt G L11) y21.1 hc22 hk22) rfl hvc dX7_copyOut_114 ?_
        obtain ⟨x26, ex26, hF⟩ := ltt_some hF
        refine lv_topi (fun zx26 ezx26 => ?_)
        obtain rfl : x26 = zx26 := ex26.trans ezx26.symm
        refine lv_imul hx hb dX7_copyOut_115 ?_
        obtain ⟨x27, ex27, hF⟩ := ltt_some hF
        refine lv_topi (fun zx27 ezx27 => ?_)
        obtain rfl : x27 = zx27 := ex27.trans ezx27.symm
        refine lv_iadd hx hb dX7_copyOut_116 ?_
        obtain ⟨x28, ex28, hF⟩ := ltt_some hF
        refine lv_topi (fun zx28 ezx28 => ?_)
        obtain rfl : x28 = zx28 := ex28.trans ezx28.symm
        refine lv_istore (lv' := [(9, .int x28), (8, .int y21.2), (7, .int y19.2), (6, .int y18), (5, .int s14.2.1), (4, .int s14.1), (0, .ref (ad12 a)), (1, va_re ad12 p0), (2, .int p1)]) hx hb dX7_copyOut_117 hl (by decide) rfl (fun ls hl => ?_)
        refine lv_iconst (v := (0 : Int32)) hx hb dX7_copyOut_119 (by decide) ?_
        refine lv_istore (lv' := [(10, .int (0 : Int32)), (9, .int x28), (8, .int y21.2), (7, .int y19.2), (6, .int y18), (5, .int s14.2.1), (4, .int s14.1), (0, .ref (ad12 a)), (1, va_re ad12 p0), (2, .int p1)]) hx hb dX7_copyOut_120 hl (by decide) rfl (fun ls hl => ?_)
        obtain ⟨y29, hy29, hF⟩ := bnd_some hF
        have K29 : ∀ (H : Heap) (locs : List Loc) (ls : Array Slot), va_P D classes (wld ct ad12 (xt G L11) y29.2.2.2) H → va_D A (wld ct ad12 (xt G L11) y29.2.2.2) → va_S A s.heap H locs → lv_has ls 11 [(10, .int y29.2.2.1), (9, .int y29.2.1), (8, .int y21.2), (7, .int y19.2), (6, .int y18), (5, .int s14.2.1), (4, .int y29.1), (0, .ref (ad12 a)), (1, va_re ad12 p0), (2, .int p1)] → W p l e (headSpec wuX7_copyOut ({ frames := 1, cells := y.1.length, slots := wt y.1, locals := 80 })).room s m ([.ref (ad a), va_re ad p0, .int p1] : List Value).toArray below meth c H locs (L11 : NN).length (wt L11) (MQ below (va_Qv (fun (u : Nat → Nat) => agr G.1 ad u) (fun u t => kE D ct u (xt G y.1) A y.2 t) A) ([.ref (ad a), va_re ad p0, .int p1] : List Value).toArray s y.1.length (wt y.1) A) (F0 m 207 ls []) := by
          intro H locs ls hP hD hS hl
          obtain ⟨x32, ex32, hF⟩ := ltt_some hF
          refine lv_iinc (v := x32) (lv' := [(5, .int x32), (10, .int y29.2.2.1), (9, .int y29.2.1), (8, .int y21.2), (7, .int y19.2), (6, .int y18), (4, .int y29.1), (0, .ref (ad12 a)), (1, va_re ad12 p0), (2, .int p1)]) hx hb dX7_copyOut_207 hl (k := 5) rfl (by rw [ex32]; rfl) (by decide) rfl (fun ls hl => ?_)
          refine lv_goto (tgt := 60) hx hb dX7_copyOut_210 (by decide) ?_
          obtain rfl := Option.some.inj hF
          exact hwz16 _ _ _ hP hD hS (lv_sub hl [0, 6, 7, 8, 9] rfl)
        clear hF
        refine itr_rule (fun (s30 : Int32 × Int32 × Int32 × DD) => ∀ (H : Heap) (locs : List Loc) (ls : Array Slot), va_P D classes (wld ct ad12 (xt G L11) s30.2.2.2) H → va_D A (wld ct ad12 (xt G L11) s30.2.2.2) → va_S A s.heap H locs → lv_has ls 11 [(10, .int s30.2.2.1), (9, .int s30.2.1), (8, .int y21.2), (7, .int y19.2), (6, .int y18), (5, .int s14.2.1), (4, .int s30.1), (0, .ref (ad12 a)), (1, va_re ad12 p0), (2, .int p1)] → W p l e (headSpec wuX7_copyOut ({ frames := 1, cells := y.1.length, slots := wt y.1, locals := 80 })).room s m ([.ref (ad a), va_re ad p0, .int p1] : List Value).toArray below meth c H locs (L11 : NN).length (wt L11) (MQ below (va_Qv (fun (u : Nat → Nat) => agr G.1 ad u) (fun u t => kE D ct u (xt G y.1) A y.2 t) A) ([.ref (ad a), va_re ad p0, .int p1] : List Value).toArray s y.1.length (wt y.1) A) (F0 m 122 ls [])) ?_ _ _ hy29 _ _ _ hP hD hS (lv_sub hl [0, 1, 2, 3, 4, 5, 6, 7, 8, 9] rfl)
        rintro s30 ⟨z33, hF, hwz33⟩ H locs ls hP hD hS hl
        try dsimp only at hF
        refine lv_iload hx hb dX7_copyOut_122 (lv_at hl 0 rfl) ?_
        refine lv_aload_n hx hb dX7_copyOut_124 rfl (lv_at hl 7 rfl) ?_
        refine lv_iload_n hx hb dX7_copyOut_125 rfl (lv_at hl 9 rfl) ?_
        refine lv_iload hx hb dX7_copyOut_126 (lv_at hl 5 rfl) ?_
        obtain ⟨y34, hy34, hF⟩ := bnd_some hF
        have hf9 := wA_in hD hA9 hS
        refine va_calli (va_runV (As := [.int p1, .int s14.2.1]) (rest := [.int s30.2.2.1]) ⟨hx, hb, hml, hown, hts⟩ (kX7_high l D ct ad12 Z (xt G L11) s30.2.2.2 H.size a p1 s14.2.1 y34 hc hk hy34) (cwV 2 hts gX7_copyOut_X7_high rfl rfl rfl (by decide +kernel) ⟨Nat.le_of_ble_eq_true rfl, Nat.le_of_ble_eq_true rfl⟩) ⟨fun a U g mk q => by obtain ⟨q0, q1, qP, qK, qD, qZ, qN⟩ := q; exact ⟨q0, q1, qP, va_K.moved (u := U) (U := U.calling g mk a) (Vm.Alike.refl U.vm) qK, qD, sF.moved (u := U) (U := U.calling g mk a) (Vm.Alike.refl U.vm) qZ, nF.same rfl qN⟩, va_recv hK hP (ci := 7) (q0 := a) rfl (wld_o ct ad12 (xt G L11) s30.2.2.2 hc hk (by decide)), fun U hU hW => ⟨rfl, by rw [hU], by rw [hU]; exact hP, va_K.moved hW.alike hK, hD.weaken (fun _ _ _ _ => trivial), by rw [hU]; exact ((hZ.kept hS.2.1).narrow hf9).moved hW.alike, hN.warm hW⟩⟩ rfl rfl hl.1 rfl (lv_room (Nat.le_of_ble_eq_true rfl)) dX7_copyOut_128 (room_d hT hbl)) hS (fun q _ h => hf9 q h) hf9 (fun r u t H locs ht hvm hw hB hz1 hk1 hS => ?_)
        obtain ⟨hP, hK9, hD9⟩ := hB
        rw [ht] at hP
        try dsimp only at hw
        subst hw
        refine W_cs (k := (L11 : NN).length) (n := wt L11) rfl rfl ?_
        have hD := hD9.weaken (fun _ q _ h => hf9 q.1 h)
        refine lv_icmp_ge (tgt := 207) hx hb dX7_copyOut_131 (by decide) (fun c35 => ?_) (fun c35 => ?_)
        · rw [if_pos c35] at hF
          obtain rfl := Option.some.inj hF
          subst hwz33
          exact K29 _ _ _ hP hD hS (lv_sub hl [0, 1, 2, 3, 4, 5, 6, 7, 8, 9] rfl)
        · rw [if_neg c35] at hF
          refine lv_iload hx hb dX7_copyOut_134 (lv_at hl 1 rfl) ?_
          refine lv_iload hx hb dX7_copyOut_136 (lv_at hl 3 rfl) ?_
          refine lv_iadd hx hb dX7_copyOut_138 ?_
          obtain ⟨x36, ex36, hF⟩ := ltt_some hF
          refine lv_topi (fun zx36 ezx36 => ?_)
          obtain rfl : x36 = zx36 := ex36.trans ezx36.symm
          refine lv_aloadq_n hx hb dX7_copyOut_139 rfl (lv_at hl 8 rfl) ?_
          refine W_st (st' := [.ref (ad12 b20), .int x36]) (by rw [va_some ho20]) ?_
          refine va_get (D := D) (ci := 4) (v := va_re ad12 (y34.1.2 b20 4)) (C := RX4) (T := TX4) (N := 18) hx hb hts (mus hf_X4) hown hK hP b20 (wld_o ct ad12 (xt G L11) y34.1 hc20 hk20 (by decide)) rfl 4 (by decide) (hts (.fieldLink RX7 265 "VideoSuite$Picture" "plane" "[[I") (mu mw_1435)) (fun _ h9 => h9) rfl dX7_copyOut_140 ?_
          refine lv_iload hx hb dX7_copyOut_143 (lv_at hl 5 rfl) ?_
          obtain ⟨b37, ho37, hc37, hk37, hF⟩ := dr_some hF
          refine W_st (st' := [.int s14.2.1, .ref (ad12 b37), .int x36]) (by rw [va_some ho37]) ?_
          obtain ⟨hvc, hF⟩ := chk_some hF
          refine ld_g hx hb hK hP hc37 hk37 hvc dX7_copyOut_145 ?_
          obtain ⟨b38, ho38, hc38, hk38, hF⟩ := dr_some hF
          refine W_st (st' := [.ref (ad12 b38), .int x36]) (by rw [va_some ho38]) ?_
          refine va_alen (v := Int32.ofNat ((xt G L11).2.2 b38)) hx hb hK hP b38 1 (wld_i ct ad12 (xt G L11) y34.1 hc38 hk38) rfl rfl dX7_copyOut_146 ?_
          obtain ⟨x39, ex39, hF⟩ := ltt_some hF
          refine lv_topi (fun zx39 ezx39 => ?_)
          obtain rfl : x39 = zx39 := ex39.trans ezx39.symm
          obtain ⟨y40, hy40, hF⟩ := bnd_some hF
          have J40 : ∀ (H : Heap) (locs : List Loc) (ls : Array Slot), va_P D classes (wld ct ad12 (xt G L11) y40) H → va_D A (wld ct ad12 (xt G L11) y40) → va_S A s.heap H locs → lv_has ls 11 [(10, .int s30.2.2.1), (9, .int s30.2.1), (8, .int y21.2), (7, .int y19.2), (6, .int y18), (5, .int s14.2.1), (4, .int s30.1), (0, .ref (ad12 a)), (1, va_re ad12 p0), (2, .int p1)] → W p l e (headSpec wuX7_copyOut ({ frames := 1, cells := y.1.length, slots := wt y.1, locals := 80 })).room s m ([.ref (ad a), va_re ad p0, .int p1] : List Value).toArray below meth c H locs (L11 : NN).length (wt L11) (MQ below (va_Qv (fun (u : Nat → Nat) => agr G.1 ad u) (fun u t => kE D ct u (xt G y.1) A y.2 t) A) ([.ref (ad a), va_re ad p0, .int p1] : List Value).toArray s y.1.length (wt y.1) A) (F0 m 187 ls []) := by
            intro H locs ls hP hD hS hl
            refine lv_iload hx hb dX7_copyOut_187 (lv_at hl 1 rfl) ?_
            refine lv_iload hx hb dX7_copyOut_189 (lv_at hl 2 rfl) ?_
            refine lv_iadd hx hb dX7_copyOut_191 ?_
            obtain ⟨x41, ex41, hF⟩ := ltt_some hF
            refine lv_topi (fun zx41 ezx41 => ?_)
            obtain rfl : x41 = zx41 := ex41.trans ezx41.symm
            refine lv_istore (lv' := [(9, .int x41), (10, .int s30.2.2.1), (8, .int y21.2), (7, .int y19.2), (6, .int y18), (5, .int s14.2.1), (4, .int s30.1), (0, .ref (ad12 a)), (1, va_re ad12 p0), (2, .int p1)]) hx hb dX7_copyOut_192 hl (by decide) rfl (fun ls hl => ?_)
            refine lv_iload hx hb dX7_copyOut_194 (lv_at hl 6 rfl) ?_
            refine lv_iload hx hb dX7_copyOut_196 (lv_at hl 3 rfl) ?_
            refine lv_iadd hx hb dX7_copyOut_198 ?_
            obtain ⟨x42, ex42, hF⟩ := ltt_some hF
            refine lv_topi (fun zx42 ezx42 => ?_)
            obtain rfl : x42 = zx42 := ex42.trans ezx42.symm
            refine lv_istore (lv' := [(4, .int x42), (9, .int x41), (10, .int s30.2.2.1), (8, .int y21.2), (7, .int y19.2), (6, .int y18), (5, .int s14.2.1), (0, .ref (ad12 a)), (1, va_re ad12 p0), (2, .int p1)]) hx hb dX7_copyOut_199 hl (by decide) rfl (fun ls hl => ?_)
            obtain ⟨x43, ex43, hF⟩ := ltt_some hF
            refine lv_iinc (v := x43) (lv' := [(10, .int x43), (4, .int x42), (9, .int x41), (8, .int y21.2), (7, .int y19.2), (6, .int y18), (5, .int s14.2.1), (0, .ref (ad12 a)), (1, va_re ad12 p0), (2, .int p1)]) hx hb dX7_copyOut_201 hl (k := 2) rfl (by rw [ex43]; rfl) (by decide) rfl (fun ls hl => ?_)
            refine lv_goto (tgt := 122) hx hb dX7_copyOut_204 (by decide) ?_
            obtain rfl := Option.some.inj hF
            exact hwz33 _ _ _ hP hD hS (lv_sub hl [0, 2, 3, 4, 5, 6, 1, 7, 8, 9] rfl)
          clear hF
          have hF := hy40
          clear hy40
          refine lv_icmp_gt (tgt := 187) hx hb dX7_copyOut_147 (by decide) (fun c44 => ?_) (fun c44 => ?_)
          · rw [if_pos c44] at hF
            obtain rfl := Option.some.inj hF
            exact J40 _ _ _ hP hD hS (lv_sub hl [0, 1, 2, 3, 4, 5, 6, 7, 8, 9] rfl)
          · rw [if_neg c44] at hF
            refine lv_iload hx hb dX7_copyOut_150 (lv_at hl 6 rfl) ?_
            refine lv_iload hx hb dX7_copyOut_152 (lv_at hl 3 rfl) ?_
            refine lv_iadd hx hb dX7_copyOut_154 ?_
            obtain ⟨x45, ex45, hF⟩ := ltt_some hF
            refine lv_topi (fun zx45 ezx45 => ?_)
            obtain rfl : x45 = zx45 := ex45.trans ezx45.symm
            refine lv_aload_n hx hb dX7_copyOut_155 rfl (lv_at hl 7 rfl) ?_
            refine va_get (D := D) (ci := 7) (v := va_re ad12 (y34.1.2 a 15)) (C := RX7) (T := TX7) (N := 17) hx hb hts (mus hf_X7) hown hK hP a (wld_o ct ad12 (xt G L11) y34.1 hc hk (by decide)) rfl 15 (by decide) (hts (.fieldLink RX7 22 "VideoSuite$Store" "outSample" "[[I") (mu mw_375)) (fun _ h9 => h9) rfl dX7_copyOut_156 ?_
            refine lv_iload_n hx hb dX7_copyOut_159 rfl (lv_at hl 9 rfl) ?_
            obtain ⟨b46, ho46, hc46, hk46, hF⟩ := dr_some hF
            refine W_st (st' := [.int p1, .ref (ad12 b46), .int x45]) (by rw [va_some ho46]) ?_
            obtain ⟨hvc, hF⟩ := chk_some hF
            refine ld_g hx hb hK hP hc46 hk46 hvc dX7_copyOut_160 ?_
            obtain ⟨b47, ho47, hc47, hk47, hF⟩ := dr_some hF
            refine W_st (st' := [.ref (ad12 b47), .int x45]) (by rw [va_some ho47]) ?_
            refine va_alen (v := Int32.ofNat ((xt G L11).2.2 b47)) hx hb hK hP b47 1 (wld_i ct ad12 (xt G L11) y34.1 hc47 hk47) rfl rfl dX7_copyOut_161 ?_
            obtain ⟨x48, ex48, hF⟩ := ltt_some hF
            refine lv_topi (fun zx48 ezx48 => ?_)
            obtain rfl : x48 = zx48 := ex48.trans ezx48.symm
            obtain ⟨y49, hy49, hF⟩ := bnd_some hF
            have J49 : ∀ (H : Heap) (locs : List Loc) (ls : Array Slot), va_P D classes (wld ct ad12 (xt G L11) y49) H → va_D A (wld ct ad12 (xt G L11) y49) → va_S A s.heap H locs → lv_has ls 11 [(10, .int s30.2.2.1), (9, .int s30.2.1), (8, .int y21.2), (7, .int y19.2), (6, .int y18), (5, .int s14.2.1), (4, .int s30.1), (0, .ref (ad12 a)), (1, va_re ad12 p0), (2, .int p1)] → W p l e (headSpec wuX7_copyOut ({ frames := 1, cells := y.1.length, slots := wt y.1, locals := 80 })).room s m ([.ref (ad a), va_re ad p0, .int p1] : List Value).toArray below meth c H locs (L11 : NN).length (wt L11) (MQ below (va_Qv (fun (u : Nat → Nat) => agr G.1 ad u) (fun u t => kE D ct u (xt G y.1) A y.2 t) A) ([.ref (ad a), va_re ad p0, .int p1] : List Value).toArray s y.1.length (wt y.1) A) (F0 m 187 ls []) := by
              intro H locs ls hP hD hS hl
              obtain rfl := Option.some.inj hF
              exact J40 _ _ _ hP hD hS (lv_sub hl [0, 1, 2, 3, 4, 5, 6, 7, 8, 9] rfl)
            clear hF
            have hF := hy49
            clear hy49
            refine lv_icmp_gt (tgt := 187) hx hb dX7_copyOut_162 (by decide) (fun c50 => ?_) (fun c50 => ?_)
            · rw [if_pos c50] at hF
              obtain rfl := Option.some.inj hF
              exact J49 _ _ _ hP hD hS (lv_sub hl [0, 1, 2, 3, 4, 5, 6, 7, 8, 9] rfl)
            · rw [if_neg c50] at hF
              refine lv_aloadq_n hx hb dX7_copyOut_165 rfl (lv_at hl 8 rfl) ?_
              refine W_st (st' := [.ref (ad12 b20)]) (by rw [va_some ho20]) ?_
              refine va_get (D := D) (ci := 4) (v := va_re ad12 (y34.1.2 b20 4)) (C := RX4) (T := TX4) (N := 18) hx hb hts (mus hf_X4) hown hK hP b20 (wld_o ct ad12 (xt G L11) y34.1 hc20 hk20 (by decide)) rfl 4 (by decide) (hts (.fieldLink RX7 265 "VideoSuite$Picture" "plane" "[[I") (mu mw_1435)) (fun _ h9 => h9) rfl dX7_copyOut_166 ?_
              refine lv_iload hx hb dX7_copyOut_169 (lv_at hl 5 rfl) ?_
              refine W_st (st' := [.int s14.2.1, .ref (ad12 b37)]) (by rw [va_some ho37]) ?_
              obtain ⟨hvc, hF⟩ := chk_some hF
              refine ld_g hx hb hK hP hc37 hk37 hvc dX7_copyOut_171 ?_
              refine lv_iload hx hb dX7_copyOut_172 (lv_at hl 1 rfl) ?_
              refine lv_aload_n hx hb dX7_copyOut_174 rfl (lv_at hl 7 rfl) ?_
              refine va_get (D := D) (ci := 7) (v := va_re ad12 (y34.1.2 a 15)) (C := RX7) (T := TX7) (N := 17) hx hb hts (mus hf_X7) hown hK hP a (wld_o ct ad12 (xt G L11) y34.1 hc hk (by decide)) rfl 15 (by decide) (hts (.fieldLink RX7 22 "VideoSuite$Store" "outSample" "[[I") (mu mw_375)) (fun _ h9 => h9) rfl dX7_copyOut_175 ?_
              refine lv_iload_n hx hb dX7_copyOut_178 rfl (lv_at hl 9 rfl) ?_
              refine W_st (st' := [.int p1, .ref (ad12 b46), .int s30.2.1, va_re ad12 (y34.1.2 b37 s14.2.1.toNatClampNeg)]) (by rw [va_some ho46]) ?_
              obtain ⟨hvc, hF⟩ := chk_some hF
              refine ld_g hx hb hK hP hc46 hk46 hvc dX7_copyOut_179 ?_
              refine lv_iload hx hb dX7_copyOut_180 (lv_at hl 6 rfl) ?_
              refine lv_iload hx hb dX7_copyOut_182 (lv_at hl 3 rfl) ?_
              refine W_st (st' := [.int y19.2, .int s30.1, va_re ad12 (y34.1.2 b46 p1.toNatClampNeg), .int s30.2.1, .ref (ad12 b38)]) (by rw [va_some ho38]) ?_
              refine W_st (st' := [.int y19.2, .int s30.1, .ref (ad12 b47), .int s30.2.1, .ref (ad12 b38)]) (by rw [va_some ho47]) ?_
              obtain ⟨hv9, hF⟩ := chk_some hF
              refine va_copyi (ty := .int) hx hb (hml.trans hl.1.symm) hown (hts (.methodLink RX7 268 arraycopyName) (mu mw_1091)) (hts (.native arraycopyName) (mu mw_1093)) (hts (.static arraycopyName) (mu mw_1092)) (hts (.initialized "java/lang/System") (mu mw_181)) hK hP hD hS b38 b47 1 1 (wld_i ct ad12 (xt G L11) y34.1 hc38 hk38) (wld_i ct ad12 (xt G L11) y34.1 hc47 hk47) rfl rfl rfl hv9.1 hv9.2.1 hv9.2.2.1 hv9.2.2.2.1 hv9.2.2.2.2 (fun _ _ => rfl) (Nat.le_of_ble_eq_true rfl) (show _ ≤ _ from (by decide +kernel : 0 + (nativeFrameWords "java/lang/System" "arraycopy" 5 + 11) ≤ 80)) dX7_copyOut_184 (fun H locs hP hD hS => ?_)
              obtain ⟨M51, eM51, hF⟩ := ltt_some hF
              rw [set_ri ct ad12 (xt G L11) y34.1 hc47 hk47, ← eM51] at hP hD
              obtain rfl := Option.some.inj hF
              exact J49 _ _ _ hP hD hS (lv_sub hl [0, 1, 2, 3, 4, 5, 6, 7, 8, 9] rfl)
      clear hF
      have hF := hy18
      clear hy18
      refine lv_if_ne (tgt := 75) hx hb dX7_copyOut_68 (by decide) (fun c52 => ?_) (fun c52 => ?_)
      · rw [if_neg c52] at hF
        refine lv_iconst (v := (1 : Int32)) hx hb dX7_copyOut_75 (by decide) ?_
        obtain rfl := Option.some.inj hF
        exact J18 _ _ _ hP hD hS (lv_sub hl [0, 1, 2, 3, 4] rfl)
      · rw [if_pos c52] at hF
        refine lv_iconst (v := (2 : Int32)) hx hb dX7_copyOut_71 (by decide) ?_
        refine lv_goto (tgt := 76) hx hb dX7_copyOut_72 (by decide) ?_
        obtain rfl := Option.some.inj hF
        exact J18 _ _ _ hP hD hS (lv_sub hl [0, 1, 2, 3, 4] rfl)
  clear hF
  obtain ⟨w53, hw53⟩ : ∃ z, z = y9 := ⟨_, rfl⟩
  have hF := hy9
  rw [← hw53] at hF
  clear hy9
  have hT : L11 = [] ++ w53.1 := by rw [eL11, hw53]
  have h2 : y9.2 = w53.2 := by rw [hw53]
  have hbl := hbl11
  refine lv_icmp_ge (tgt := 54) hx hb dX7_copyOut_26 (by decide) (fun c54 => ?_) (fun c54 => ?_)
  · rw [if_pos c54] at hF
    obtain rfl := Option.some.inj hF
    have e1 : L11 = [] := by rw [hT]; exact List.append_nil _
    have e2 : y9.2 = y2.1 := h2
    rw [e1] at J9
    try rw [e2] at J9
    exact J9 _ hag _ _ _ hP hD hS (lv_sub hl [1, 2, 3] rfl)
  · rw [if_neg c54] at hF
    refine lv_aload_n hx hb dX7_copyOut_29 rfl (lv_at hl 1 rfl) ?_
    refine va_get (D := D) (ci := 7) (v := va_re ad (y2.1.2 a 15)) (C := RX7) (T := TX7) (N := 17) hx hb hts (mus hf_X7) hown hK hP a (wld_o ct ad (xt G []) y2.1 hc hk (by decide)) rfl 15 (by decide) (hts (.fieldLink RX7 22 "VideoSuite$Store" "outSample" "[[I") (mu mw_375)) (fun _ h9 => h9) rfl dX7_copyOut_30 ?_
    refine lv_iload_n hx hb dX7_copyOut_33 rfl (lv_at hl 3 rfl) ?_
    refine lv_aload_n hx hb dX7_copyOut_34 rfl (lv_at hl 1 rfl) ?_
    refine va_get (D := D) (ci := 7) (v := va_re ad (y2.1.2 a 15)) (C := RX7) (T := TX7) (N := 17) hx hb hts (mus hf_X7) hown hK hP a (wld_o ct ad (xt G []) y2.1 hc hk (by decide)) rfl 15 (by decide) (hts (.fieldLink RX7 22 "VideoSuite$Store" "outSample" "[[I") (mu mw_375)) (fun _ h9 => h9) rfl dX7_copyOut_35 ?_
    refine lv_iload_n hx hb dX7_copyOut_38 rfl (lv_at hl 3 rfl) ?_
    refine W_st (st' := [.int p1, .ref (ad b6), .int p1, .ref (ad b6)]) (by rw [va_some ho6]) ?_
    obtain ⟨hvc, hF⟩ := chk_some hF
    refine ld_g hx hb hK hP hc6 hk6 hvc dX7_copyOut_39 ?_
    refine W_st (st' := [.ref (ad b7), .int p1, .ref (ad b6)]) (by rw [va_some ho7]) ?_
    refine va_alen (v := Int32.ofNat ((xt G []).2.2 b7)) hx hb hK hP b7 1 (wld_i ct ad (xt G []) y2.1 hc7 hk7) rfl rfl dX7_copyOut_40 ?_
    obtain ⟨x55, ex55, hF⟩ := ltt_some hF
    refine lv_topi (fun zx55 ezx55 => ?_)
    obtain rfl : x55 = zx55 := ex55.trans ezx55.symm
    obtain ⟨y56, hy56, hF⟩ := bnd_some hF
    have J56 : ∀ (H : Heap) (locs : List Loc) (ls : Array Slot), va_P D classes (wld ct ad (xt G []) y2.1) H → va_D A (wld ct ad (xt G []) y2.1) → va_S A s.heap H locs → lv_has ls 11 [(3, .int x5), (0, .ref (ad a)), (1, va_re ad p0), (2, .int p1)] → W p l e (headSpec wuX7_copyOut ({ frames := 1, cells := y.1.length, slots := wt y.1, locals := 80 })).room s m ([.ref (ad a), va_re ad p0, .int p1] : List Value).toArray below meth c H locs ([] : NN).length (wt []) (MQ below (va_Qv (fun (u : Nat → Nat) => agr G.1 ad u) (fun u t => kE D ct u (xt G y.1) A y.2 t) A) ([.ref (ad a), va_re ad p0, .int p1] : List Value).toArray s y.1.length (wt y.1) A) (F0 m 51 ls [.int y56, .int p1, .ref (ad b6)]) := by
      intro H locs ls hP hD hS hl
      obtain ⟨hC57, hF⟩ := chkP_some hF
      obtain ⟨hz9, hF⟩ := chk_some hF
      obtain ⟨hq58, hF⟩ := chk_some hF
      obtain ⟨c59, ec59, hF⟩ := ltt_some hF
      obtain ⟨w60, hF, ew60⟩ := app_some hF
      obtain ⟨L61, eL61, hF⟩ := ltt_some hF
      have hT61 : L11 = ([] ++ [(13, y56.toNatClampNeg)]) ++ w60.1 := by rw [hT, ew60]; simp only [List.append_assoc]
      obtain ⟨M62, eM62, hF⟩ := ltt_some hF
      refine new_i hx hb (hts (.arrayClass .int) (mu mw_266)) hK hP hD hS hA9 hz9.1 hz9.2 hC57 (room_1s hT61 hbl) dX7_copyOut_51 (fun ad63 H hn64 hP hD hS => ?_)
      rw [← ec59, ← eL61, ← eM62] at hP hD
      refine W_cs (k := L61.length) (n := wt L61) (by rw [eL61]) (by rw [eL61]) ?_
      refine W_st (st' := [.ref (ad63 c59), .int p1, .ref (ad b6)]) (by rw [ec59]) ?_
      have hT : L11 = L61 ++ w60.1 := by rw [hT61, eL61]
      have h2 : y9.2 = w60.2 := by rw [h2, ew60]
      have hl := lv_sub (l' := [(0, .ref (ad a)), (1, va_re ad p0), (2, .int p1)]) hl [1, 2, 3] rfl
      have e9 : ([(0, .ref (ad a)), (1, va_re ad p0), (2, .int p1)] : List (Nat × Value)) = [(0, .ref (ad63 a)), (1, va_re ad63 p0), (2, .int p1)] := (by first | rfl | simp only [hn64 a hc, agr_re hn64 hq58])
      rw [e9] at hl
      clear e9
      refine W_st (st' := [.ref (ad63 c59), .int p1, .ref (ad63 b6)]) (by first | rfl | simp only [hn64 b6 hc6]) ?_
      have hk : (xt G L61).2.1 a = 7 := by rw [eL61]; exact xt_k _ hc hk
      have hc : a < (xt G L61).1 := by rw [eL61]; exact xt_l _ hc
      have hk6 : (xt G L61).2.1 b6 = 15 := by rw [eL61]; exact xt_k _ hc6 hk6
      have hc6 : b6 < (xt G L61).1 := by rw [eL61]; exact xt_l _ hc6
      have hk7 : (xt G L61).2.1 b7 = 13 := by rw [eL61]; exact xt_k _ hc7 hk7
      have hc7 : b7 < (xt G L61).1 := by rw [eL61]; exact xt_l _ hc7
      have hag := agr_t (xt_ge _ _) hag hn64
      have hc59 : c59 < (xt G L61).1 := by rw [ec59, eL61]; exact cnt_new _ _ _
      have hk59 : (xt G L61).2.1 c59 = 13 := by rw [ec59, eL61]; exact (kind_new _ _ _ _).1
      obtain ⟨hvc, hF⟩ := chk_some hF
      refine st_g hx hb hN hK hP hD hS hc6 hk6 hc59 hk59 hvc dX7_copyOut_53 (fun H locs hP hD hS => ?_)
      obtain ⟨M65, eM65, hF⟩ := ltt_some hF
      rw [← eM65] at hP hD
      obtain rfl := Option.some.inj hF
      have e1 : L11 = L61 := by rw [hT]; exact List.append_nil _
      have e2 : y9.2 = M65 := h2
      rw [e1] at J9
      try rw [e2] at J9
      exact J9 _ hag _ _ _ hP hD hS (lv_sub hl [0, 1, 2] rfl)
    clear hF
    have hF := hy56
    clear hy56
    refine lv_if_ne (tgt := 48) hx hb dX7_copyOut_41 (by decide) (fun c66 => ?_) (fun c66 => ?_)
    · rw [if_neg c66] at hF
      refine lv_sipush (v := (12288 : Int32)) hx hb dX7_copyOut_48 (by decide) ?_
      obtain rfl := Option.some.inj hF
      exact J56 _ _ _ hP hD hS (lv_sub hl [0, 1, 2, 3] rfl)
    · rw [if_pos c66] at hF
      refine lv_iload_n hx hb dX7_copyOut_44 rfl (lv_at hl 0 rfl) ?_
      refine lv_goto (tgt := 51) hx hb dX7_copyOut_45 (by decide) ?_
      obtain rfl := Option.some.inj hF
      exact J56 _ _ _ hP hD hS (lv_sub hl [0, 1, 2, 3] rfl)
set_option maxRecDepth 20000 in
theorem gX7_fresh_X4_become : GoodIn wuX7_fresh (wsV RX7 69 RX4 yX4_become wuX4_become) := gu_V mw_1523 mw_1524 mw_1525 mw_185 mw_1526
set_option maxRecDepth 20000 in
theorem gX7_fresh_X7_isNeeded : GoodIn wuX7_fresh (wsV RX7 62 RX7 yX7_isNeeded wuX7_isNeeded) := gu_V mw_1519 mw_1521 mw_43 mw_170 mw_1522
set_option maxRecDepth 20000 in
set_option maxRecDepth 20000 in
theorem gX7_fresh_X4_init_n61 : GoodIn wuX7_fresh wuX4_init := gu_P mw_1415
set_option maxRecDepth 20000 in
theorem dX7_fresh_0 : decode cX7_fresh 0 = .ok (.iconst 0, 1) := by decide +kernel
theorem dX7_fresh_1 : decode cX7_fresh 1 = .ok (.istore_n 3, 1) := by decide +kernel
theorem dX7_fresh_2 : decode cX7_fresh 2 = .ok (.iconst 0, 1) := by decide +kernel
theorem dX7_fresh_3 : decode cX7_fresh 3 = .ok (.istore 4, 2) := by decide +kernel
theorem dX7_fresh_5 : decode cX7_fresh 5 = .ok (.iload 4, 2) := by decide +kernel
theorem dX7_fresh_7 : decode cX7_fresh 7 = .ok (.aload_n 0, 1) := by decide +kernel
theorem dX7_fresh_8 : decode cX7_fresh 8 = .ok (.getfield 13, 3) := by decide +kernel
theorem dX7_fresh_11 : decode cX7_fresh 11 = .ok (.arraylength, 1) := by decide +kernel
theorem dX7_fresh_12 : decode cX7_fresh 12 = .ok (.if_icmp .ge 53, 3) := by decide +kernel
theorem dX7_fresh_15 : decode cX7_fresh 15 = .ok (.aload_n 0, 1) := by decide +kernel
theorem dX7_fresh_16 : decode cX7_fresh 16 = .ok (.getfield 13, 3) := by decide +kernel
theorem dX7_fresh_19 : decode cX7_fresh 19 = .ok (.iload 4, 2) := by decide +kernel
theorem dX7_fresh_21 : decode cX7_fresh 21 = .ok (.aaload, 1) := by decide +kernel
theorem dX7_fresh_22 : decode cX7_fresh 22 = .ok (.ifnonnull 17, 3) := by decide +kernel
theorem dX7_fresh_25 : decode cX7_fresh 25 = .ok (.aload_n 0, 1) := by decide +kernel
theorem dX7_fresh_26 : decode cX7_fresh 26 = .ok (.getfield 13, 3) := by decide +kernel
theorem dX7_fresh_29 : decode cX7_fresh 29 = .ok (.iload 4, 2) := by decide +kernel
theorem dX7_fresh_31 : decode cX7_fresh 31 = .ok (.new 11, 3) := by decide +kernel
theorem dX7_fresh_34 : decode cX7_fresh 34 = .ok (.dup, 1) := by decide +kernel
theorem dX7_fresh_35 : decode cX7_fresh 35 = .ok (.invokespecial 61, 3) := by decide +kernel
theorem dX7_fresh_38 : decode cX7_fresh 38 = .ok (.aastore, 1) := by decide +kernel
theorem dX7_fresh_39 : decode cX7_fresh 39 = .ok (.aload_n 0, 1) := by decide +kernel
theorem dX7_fresh_40 : decode cX7_fresh 40 = .ok (.aload_n 0, 1) := by decide +kernel
theorem dX7_fresh_41 : decode cX7_fresh 41 = .ok (.getfield 13, 3) := by decide +kernel
theorem dX7_fresh_44 : decode cX7_fresh 44 = .ok (.iload 4, 2) := by decide +kernel
theorem dX7_fresh_46 : decode cX7_fresh 46 = .ok (.aaload, 1) := by decide +kernel
theorem dX7_fresh_47 : decode cX7_fresh 47 = .ok (.invokevirtual 62, 3) := by decide +kernel
theorem dX7_fresh_50 : decode cX7_fresh 50 = .ok (.ifCond .ne 9, 3) := by decide +kernel
theorem dX7_fresh_53 : decode cX7_fresh 53 = .ok (.iload 4, 2) := by decide +kernel
theorem dX7_fresh_55 : decode cX7_fresh 55 = .ok (.istore_n 3, 1) := by decide +kernel
theorem dX7_fresh_56 : decode cX7_fresh 56 = .ok (.goto 9, 3) := by decide +kernel
theorem dX7_fresh_59 : decode cX7_fresh 59 = .ok (.iinc 4 1, 3) := by decide +kernel
theorem dX7_fresh_62 : decode cX7_fresh 62 = .ok (.goto (-57), 3) := by decide +kernel
theorem dX7_fresh_65 : decode cX7_fresh 65 = .ok (.aload_n 0, 1) := by decide +kernel
theorem dX7_fresh_66 : decode cX7_fresh 66 = .ok (.dup, 1) := by decide +kernel
theorem dX7_fresh_67 : decode cX7_fresh 67 = .ok (.getfield 66, 3) := by decide +kernel
theorem dX7_fresh_70 : decode cX7_fresh 70 = .ok (.iconst 1, 1) := by decide +kernel
theorem dX7_fresh_71 : decode cX7_fresh 71 = .ok (.iadd, 1) := by decide +kernel
theorem dX7_fresh_72 : decode cX7_fresh 72 = .ok (.putfield 66, 3) := by decide +kernel
theorem dX7_fresh_75 : decode cX7_fresh 75 = .ok (.aload_n 0, 1) := by decide +kernel
theorem dX7_fresh_76 : decode cX7_fresh 76 = .ok (.getfield 13, 3) := by decide +kernel
theorem dX7_fresh_79 : decode cX7_fresh 79 = .ok (.iload_n 3, 1) := by decide +kernel
theorem dX7_fresh_80 : decode cX7_fresh 80 = .ok (.aaload, 1) := by decide +kernel
theorem dX7_fresh_81 : decode cX7_fresh 81 = .ok (.aload_n 0, 1) := by decide +kernel
theorem dX7_fresh_82 : decode cX7_fresh 82 = .ok (.getfield 66, 3) := by decide +kernel
theorem dX7_fresh_85 : decode cX7_fresh 85 = .ok (.iload_n 1, 1) := by decide +kernel
theorem dX7_fresh_86 : decode cX7_fresh 86 = .ok (.iload_n 2, 1) := by decide +kernel
theorem dX7_fresh_87 : decode cX7_fresh 87 = .ok (.invokevirtual 69, 3) := by decide +kernel
theorem dX7_fresh_90 : decode cX7_fresh 90 = .ok (.aload_n 0, 1) := by decide +kernel
theorem dX7_fresh_91 : decode cX7_fresh 91 = .ok (.getfield 13, 3) := by decide +kernel
theorem dX7_fresh_94 : decode cX7_fresh 94 = .ok (.iload_n 3, 1) := by decide +kernel
theorem dX7_fresh_95 : decode cX7_fresh 95 = .ok (.aaload, 1) := by decide +kernel
theorem dX7_fresh_96 : decode cX7_fresh 96 = .ok (.areturn, 1) := by decide +kernel
noncomputable def FX7_fresh (G : GG) (M : DD) (a : Nat) (p0 : Int32) (p1 : Int32) : Option (NN × DD × Option Nat) :=
  bnd (itrA (fun (s2 : NN × Int32 × Int32 × DD) => ((dr (xt G s2.1) 14 ((s2.2.2.2.2 a 0)) fun b24 =>
  ltt (Int32.ofNat ((xt G s2.1).2.2 b24)) fun x25 =>
  if x25 ≤ s2.2.2.1 then (some ([], .inr ((s2.2.1, s2.2.2.1, s2.2.2.2)))) else
  (chk (¬ (s2.2.2.1 < 0 ∨ (xt G s2.1).2.2 b24 ≤ s2.2.2.1.toNatClampNeg)) <|
  bnd (if ((s2.2.2.2.2 b24 s2.2.2.1.toNatClampNeg)) = none then (chkP (Clo (xt G s2.1) s2.2.2.2) <|
  chk (okd (xt G s2.1) ((s2.2.2.2.2 a 0)) = true) <|
  ltt ((xt G s2.1).1) fun c39 =>
  app [(4, 0)] <|
  ltt (s2.1 ++ [(4, 0)]) fun L41 =>
  ltt (rO s2.2.2.2 c39) fun M42 =>
  chk (okd (xt G L41) ((s2.2.2.2.2 a 0)) = true) <|
  bnd (FX4_init (xt G L41) M42 c39) fun y45 =>
  app y45.1 <|
  ltt (L41 ++ y45.1) fun L48 =>
  chk (¬ (s2.2.2.1 < 0 ∨ (xt G L48).2.2 b24 ≤ s2.2.2.1.toNatClampNeg)) <|
  chk (okr (xt G L48) 4 (some c39) = true) <|
  ltt (uP y45.2 b24 s2.2.2.1.toNatClampNeg (some c39)) fun M51 =>
  some ([], M51)) else
  (some ([], s2.2.2.2))) fun (y27 : NN × DD) =>
  app y27.1 <|
  ltt (s2.1 ++ y27.1) fun L29 =>
  dr (xt G L29) 14 ((y27.2.2 a 0)) fun b31 =>
  chk (¬ (s2.2.2.1 < 0 ∨ (xt G L29).2.2 b31 ≤ s2.2.2.1.toNatClampNeg)) <|
  bnd (FX7_isNeeded (xt G L29) y27.2 a ((y27.2.2 b31 s2.2.2.1.toNatClampNeg))) fun y32 =>
  if y32.2 = ((0 : Int32)) then (some ([], .inr ((s2.2.2.1, s2.2.2.1, y32.1)))) else
  (ltt (s2.2.2.1 + (1 : Int32)) fun x34 =>
  some ([], .inl (L29, (s2.2.1, x34, y32.1)))))) : Option (NN × ((NN × Int32 × Int32 × DD) ⊕ (Int32 × Int32 × DD))))) 1000000 ([], ((0 : Int32), (0 : Int32), M))) fun (y1 : NN × Int32 × Int32 × DD) =>
  app y1.1 <|
  ltt ([] ++ y1.1) fun L4 =>
  ltt (y1.2.2.2.1 a 1) fun x6 =>
  ltt ((x6 + ((1 : Int32)))) fun x7 =>
  ltt (uI y1.2.2.2 a 1 x7) fun M8 =>
  dr (xt G L4) 14 ((M8.2 a 0)) fun b9 =>
  chk (¬ (y1.2.1 < 0 ∨ (xt G L4).2.2 b9 ≤ y1.2.1.toNatClampNeg)) <|
  ltt (M8.1 a 1) fun x10 =>
  dr (xt G L4) 4 ((M8.2 b9 y1.2.1.toNatClampNeg)) fun b11 =>
  bnd (FX4_become (xt G L4) M8 b11 x10 p0 p1) fun y12 =>
  app y12.1 <|
  ltt (L4 ++ y12.1) fun L14 =>
  dr (xt G L14) 14 ((y12.2.2 a 0)) fun b17 =>
  chk (¬ (y1.2.1 < 0 ∨ (xt G L14).2.2 b17 ≤ y1.2.1.toNatClampNeg)) <|
  dr (xt G L14) 4 ((y12.2.2 b17 y1.2.1.toNatClampNeg)) fun b18 =>
  some ([], (y12.2, some b18))
set_option maxHeartbeats 4000000 in
set_option maxRecDepth 100000 in
theorem kX7_fresh (l : Launch) (D : va_G) (ct : CT) (ad : Nat → Nat) (Z : Nat → Nat) (G : GG) (M : DD) (sz : Nat) (a : Nat) (p0 : Int32) (p1 : Int32) (y : NN × DD × Option Nat) (hc : a < G.1) (hk : G.2.1 a = 7) (hF : FX7_fresh G M a p0 p1 = some y) : Met l yX7_fresh wuX7_fresh ({ frames := 2, cells := y.1.length, slots := wt y.1, locals := 48 }) (va_Pc [.ref (ad a), .int p0, .int p1] (kB D ct ad Z G M sz)) (va_Qr (fun (u : Nat → Nat) => agr G.1 ad u) (fun u q t => (∃ b, y.2.2 = some b ∧ q = u b) ∧ kE D ct u (xt G y.1) (wA ad G sz) y.2.1 t) (wA ad G sz)) y.1.length (wt y.1) (wA ad G sz) := by
  refine Met.ofW (cc := cX7_fresh) (maxL := 5) (ret := (some (.object "VideoSuite$Picture"))) (by decide) rfl ?_
  intro p e s m args below meth c s₁ B hml hv
  obtain ⟨rfl, hsz, hP, hK, hD0, hZ, hN⟩ := hv
  have hx := B.exec
  have hb := B.bytes
  have hr := B.returns
  have hts := atoms_spec (ws := wuX7_fresh) B.pre
  have hown : s.vm.findClass RX7 = some m.cls := findClass_of_methodNamed B.named
  have hlocks := B.notSynchronized
  subst hsz
  have hD := wD_self (sz := s.heap.size) hD0
  have hA9 : ∀ q, s.heap.size ≤ q → wA ad G s.heap.size q := fun q h => Or.inr h
  generalize hAe : wA ad G s.heap.size = A at hD hA9 hZ ⊢
  have hS : va_S A s.heap s.heap [] := va_S.rf
  have hl := lv_entry ([.ref (ad a), .int p0, .int p1]) (n := 5) (Nat.le_of_ble_eq_true rfl)
  rw [lg_entry_eq]
  generalize (lg_sl ([.ref (ad a), .int p0, .int p1]) ++ List.replicate (5 - (lg_sl ([.ref (ad a), .int p0, .int p1])).length) Slot.unset).toArray = ls at hl ⊢
  have hl : lv_has ls 5 [(0, .ref (ad a)), (1, .int p0), (2, .int p1)] := hl
  unfold FX7_fresh at hF
  rw [← wld_0 ct ad G M] at hP hD
  have hk := xt_k0 hc hk
  have hc := xt_l0 hc
  have hag := agr_rf G.1 ad
  obtain ⟨w0, hw0⟩ : ∃ z, z = y := ⟨_, rfl⟩
  rw [← hw0] at hF
  have hT : y.1 = [] ++ w0.1 := by rw [hw0]; rfl
  have h2 : y.2 = w0.2 := by rw [hw0]
  have hbl : y.1.length ≤ y.1.length ∧ wt y.1 ≤ wt y.1 := ⟨Nat.le_refl _, Nat.le_refl _⟩
  refine lv_iconst (v := (0 : Int32)) hx hb dX7_fresh_0 (by decide) ?_
  refine lv_istore_n (lv' := [(3, .int (0 : Int32)), (0, .ref (ad a)), (1, .int p0), (2, .int p1)]) hx hb dX7_fresh_1 rfl hl (by decide) rfl (fun ls hl => ?_)
  refine lv_iconst (v := (0 : Int32)) hx hb dX7_fresh_2 (by decide) ?_
  refine lv_istore (lv' := [(4, .int (0 : Int32)), (3, .int (0 : Int32)), (0, .ref (ad a)), (1, .int p0), (2, .int p1)]) hx hb dX7_fresh_3 hl (by decide) rfl (fun ls hl => ?_)
  obtain ⟨y1, hy1, hF⟩ := bnd_some hF
  obtain ⟨w3, hF, ew3⟩ := app_some hF
  obtain ⟨L4, eL4, hF⟩ := ltt_some hF
  have hT4 : y.1 = ([] ++ y1.1) ++ w3.1 := by rw [hT, ew3]; simp only [List.append_assoc]
  have hbl4 : L4.length ≤ y.1.length ∧ wt L4 ≤ wt y.1 := by rw [eL4]; exact room_d hT4 hbl
  have K1 : ∀ (ad5 : Nat → Nat), agr G.1 ad ad5 → ∀ (H : Heap) (locs : List Loc) (ls : Array Slot), va_P D classes (wld ct ad5 (xt G L4) y1.2.2.2) H → va_D A (wld ct ad5 (xt G L4) y1.2.2.2) → va_S A s.heap H locs → lv_has ls 5 [(3, .int y1.2.1), (0, .ref (ad5 a)), (1, .int p0), (2, .int p1)] → W p l e (headSpec wuX7_fresh ({ frames := 2, cells := y.1.length, slots := wt y.1, locals := 48 })).room s m ([.ref (ad a), .int p0, .int p1] : List Value).toArray below meth c H locs (L4 : NN).length (wt L4) (MQ below (va_Qr (fun (u : Nat → Nat) => agr G.1 ad u) (fun u q t => (∃ b, y.2.2 = some b ∧ q = u b) ∧ kE D ct u (xt G y.1) A y.2.1 t) A) ([.ref (ad a), .int p0, .int p1] : List Value).toArray s y.1.length (wt y.1) A) (F0 m 65 ls []) := by
    intro ad5 hag H locs ls hP hD hS hl
    have hT : y.1 = L4 ++ w3.1 := by rw [hT4, eL4]
    have h2 : y.2 = w3.2 := by rw [h2, ew3]
    have hk : (xt G L4).2.1 a = 7 := by rw [eL4]; exact xt_k _ hc hk
    have hc : a < (xt G L4).1 := by rw [eL4]; exact xt_l _ hc
    refine lv_aload_n hx hb dX7_fresh_65 rfl (lv_at hl 1 rfl) ?_
    refine lv_dup hx hb dX7_fresh_66 rfl ?_
    refine va_get (D := D) (ci := 7) (v := .int (y1.2.2.2.1 a 1)) (C := RX7) (T := TX7) (N := 17) hx hb hts (mus hf_X7) hown hK hP a (wld_o ct ad5 (xt G L4) y1.2.2.2 hc hk (by decide)) rfl 1 (by decide) (hts (.fieldLink RX7 66 "VideoSuite$Store" "lastId" "I") (mu mw_356)) (fun _ h9 => h9) rfl dX7_fresh_67 ?_
    obtain ⟨x6, ex6, hF⟩ := ltt_some hF
    refine lv_topi (fun zx6 ezx6 => ?_)
    obtain rfl : x6 = zx6 := ex6.trans ezx6.symm
    refine lv_iconst (v := (1 : Int32)) hx hb dX7_fresh_70 (by decide) ?_
    refine lv_iadd hx hb dX7_fresh_71 ?_
    obtain ⟨x7, ex7, hF⟩ := ltt_some hF
    refine lv_topi (fun zx7 ezx7 => ?_)
    obtain rfl : x7 = zx7 := ex7.trans ezx7.symm
    refine va_put (D := D) (ci := 7) (v := .int x7) (ty := .int) (C := RX7) (T := TX7) (N := 17) hx hb hts (mus hf_X7) tyX7 tyX7_ok nmX7 hown hK hP hD hS a (wld_o ct ad5 (xt G L4) y1.2.2.2 hc hk (by decide)) rfl 1 (by decide) (hts (.fieldLink RX7 66 "VideoSuite$Store" "lastId" "I") (mu mw_356)) (fun _ h9 => h9) rfl (by decide +kernel) rfl rfl (Nat.le_of_ble_eq_true rfl) dX7_fresh_72 (fun H locs hP hD hS => ?_)
    obtain ⟨M8, eM8, hF⟩ := ltt_some hF
    rw [set_oI ct ad5 (xt G L4) y1.2.2.2 hc hk (by decide) (by rfl), ← eM8] at hP hD
    refine lv_aload_n hx hb dX7_fresh_75 rfl (lv_at hl 1 rfl) ?_
    refine va_get (D := D) (ci := 7) (v := va_re ad5 (M8.2 a 0)) (C := RX7) (T := TX7) (N := 17) hx hb hts (mus hf_X7) hown hK hP a (wld_o ct ad5 (xt G L4) M8 hc hk (by decide)) rfl 0 (by decide) (hts (.fieldLink RX7 13 "VideoSuite$Store" "pool" "[LVideoSuite$Picture;") (mu mw_355)) (fun _ h9 => h9) rfl dX7_fresh_76 ?_
    refine lv_iload_n hx hb dX7_fresh_79 rfl (lv_at hl 0 rfl) ?_
    obtain ⟨b9, ho9, hc9, hk9, hF⟩ := dr_some hF
    refine W_st (st' := [.int y1.2.1, .ref (ad5 b9)]) (by rw [va_some ho9]) ?_
    obtain ⟨hvc, hF⟩ := chk_some hF
    refine ld_q hx hb hK hP hc9 hk9 hvc dX7_fresh_80 ?_
    refine lv_aload_n hx hb dX7_fresh_81 rfl (lv_at hl 1 rfl) ?_
    refine va_get (D := D) (ci := 7) (v := .int (M8.1 a 1)) (C := RX7) (T := TX7) (N := 17) hx hb hts (mus hf_X7) hown hK hP a (wld_o ct ad5 (xt G L4) M8 hc hk (by decide)) rfl 1 (by decide) (hts (.fieldLink RX7 66 "VideoSuite$Store" "lastId" "I") (mu mw_356)) (fun _ h9 => h9) rfl dX7_fresh_82 ?_
    obtain ⟨x10, ex10, hF⟩ := ltt_some hF
    refine lv_topi (fun zx10 ezx10 => ?_)
    obtain rfl : x10 = zx10 := ex10.trans ezx10.symm
    refine lv_iload_n hx hb dX7_fresh_85 rfl (lv_at hl 2 rfl) ?_
    refine lv_iload_n hx hb dX7_fresh_86 rfl (lv_at hl 3 rfl) ?_
    obtain ⟨b11, ho11, hc11, hk11, hF⟩ := dr_some hF
    refine W_st (st' := [.int p1, .int p0, .int x10, .ref (ad5 b11)]) (by rw [va_some ho11]) ?_
    obtain ⟨y12, hy12, hF⟩ := bnd_some hF
    obtain ⟨w13, hF, ew13⟩ := app_some hF
    obtain ⟨L14, eL14, hF⟩ := ltt_some hF
    have hT14 : y.1 = (L4 ++ y12.1) ++ w13.1 := by rw [hT, ew13]; simp only [List.append_assoc]
    have hf9 := wA_in hD hA9 hS
    refine va_callv (va_runV (As := [.int x10, .int p0, .int p1]) (rest := []) ⟨hx, hb, hml, hown, hts⟩ (kX4_become l D ct ad5 Z (xt G L4) M8 _ b11 x10 p0 p1 y12 hc11 hk11 hy12) (cwV 3 hts gX7_fresh_X4_become rfl rfl rfl (by decide +kernel) ⟨Nat.le_of_ble_eq_true rfl, Nat.le_of_ble_eq_true rfl⟩) ⟨fun a U g mk q => by obtain ⟨q0, q1, qP, qK, qD, qZ, qN⟩ := q; exact ⟨q0, q1, qP, va_K.moved (u := U) (U := U.calling g mk a) (Vm.Alike.refl U.vm) qK, qD, sF.moved (u := U) (U := U.calling g mk a) (Vm.Alike.refl U.vm) qZ, nF.same rfl qN⟩, va_recv hK hP (ci := 4) (q0 := b11) rfl (wld_o ct ad5 (xt G L4) M8 hc11 hk11 (by decide)), fun U hU hW => ⟨rfl, by rw [hU], by rw [hU]; exact hP, va_K.moved hW.alike hK, hD.weaken (fun _ _ _ _ => trivial), by rw [hU]; exact ((hZ.kept hS.2.1).narrow hf9).moved hW.alike, hN.warm hW⟩⟩ rfl rfl hl.1 rfl (lv_room (Nat.le_of_ble_eq_true rfl)) dX7_fresh_87 (room_s hT14 hbl)) hS (fun q _ h => hf9 q h) hf9 (fun ad15 t H locs ht hvm hw hB hz1 hk1 hS => ?_)
    have hn16 := hw
    obtain ⟨hP, hK9, hD9⟩ := hB
    rw [ht] at hP
    have hD := hD9.weaken (fun _ q _ h => hf9 q.1 h)
    rw [xt_xt, ← eL14] at hP hD
    refine W_cs (k := L14.length) (n := wt L14) (by rw [eL14]; exact (len_s L4 y12.1).symm) (by rw [eL14]; exact (wt_app L4 y12.1).symm) ?_
    have hT : y.1 = L14 ++ w13.1 := by rw [hT14, eL14]
    have h2 : y.2 = w13.2 := by rw [h2, ew13]
    have hl := lv_sub (l' := [(3, .int y1.2.1), (0, .ref (ad5 a))]) hl [0, 1] rfl
    have e9 : ([(3, .int y1.2.1), (0, .ref (ad5 a))] : List (Nat × Value)) = [(3, .int y1.2.1), (0, .ref (ad15 a))] := (by first | rfl | simp only [hn16 a hc])
    rw [e9] at hl
    clear e9
    have hk : (xt G L14).2.1 a = 7 := by rw [eL14]; exact xt_k _ hc hk
    have hc : a < (xt G L14).1 := by rw [eL14]; exact xt_l _ hc
    have hk9 : (xt G L14).2.1 b9 = 14 := by rw [eL14]; exact xt_k _ hc9 hk9
    have hc9 : b9 < (xt G L14).1 := by rw [eL14]; exact xt_l _ hc9
    have hk11 : (xt G L14).2.1 b11 = 4 := by rw [eL14]; exact xt_k _ hc11 hk11
    have hc11 : b11 < (xt G L14).1 := by rw [eL14]; exact xt_l _ hc11
    have hag := agr_t (xt_ge _ _) hag hn16
    refine lv_aload_n hx hb dX7_fresh_90 rfl (lv_at hl 1 rfl) ?_
    refine va_get (D := D) (ci := 7) (v := va_re ad15 (y12.2.2 a 0)) (C := RX7) (T := TX7) (N := 17) hx hb hts (mus hf_X7) hown hK hP a (wld_o ct ad15 (xt G L14) y12.2 hc hk (by decide)) rfl 0 (by decide) (hts (.fieldLink RX7 13 "VideoSuite$Store" "pool" "[LVideoSuite$Picture;") (mu mw_355)) (fun _ h9 => h9) rfl dX7_fresh_91 ?_
    refine lv_iload_n hx hb dX7_fresh_94 rfl (lv_at hl 0 rfl) ?_
    obtain ⟨b17, ho17, hc17, hk17, hF⟩ := dr_some hF
    refine W_st (st' := [.int y1.2.1, .ref (ad15 b17)]) (by rw [va_some ho17]) ?_
    obtain ⟨hvc, hF⟩ := chk_some hF
    refine ld_q hx hb hK hP hc17 hk17 hvc dX7_fresh_95 ?_
    obtain ⟨b18, ho18, hc18, hk18, hF⟩ := dr_some hF
    refine W_st (st' := [.ref (ad15 b18)]) (by rw [va_some ho18]) ?_
    obtain rfl := Option.some.inj hF
    have e1 : y.1 = L14 := by rw [hT]; exact List.append_nil _
    have e2 : y.2 = (y12.2, some b18) := h2
    refine W.widen (k := y.1.length) (n := wt y.1) (Nat.le_of_eq (by rw [e1])) (Nat.le_of_eq (by rw [e1])) ?_
    exact W.aret (v := .ref (ad15 b18)) hx hb hr (Or.inl ⟨_, rfl⟩) (Or.inr ⟨_, rfl⟩) (fun t ht hW => ⟨⟨ad15, _, rfl, hag, ⟨b18, by rw [e2], rfl⟩, (by unfold kE; rw [e1, e2]; exact ⟨by rw [ht]; exact hP, va_K.moved hW.alike hK, hD⟩)⟩, hS.F ht⟩) hS.2.2 dX7_fresh_96
  clear hF
  refine itrA_rule (fun (s2 : NN × Int32 × Int32 × DD) (r20 : NN) => (∃ t, s2.1 = [] ++ t) → L4 = s2.1 ++ r20 → ∀ (ad19 : Nat → Nat), agr G.1 ad ad19 → ∀ (H : Heap) (locs : List Loc) (ls : Array Slot), va_P D classes (wld ct ad19 (xt G s2.1) s2.2.2.2) H → va_D A (wld ct ad19 (xt G s2.1) s2.2.2.2) → va_S A s.heap H locs → lv_has ls 5 [(4, .int s2.2.2.1), (3, .int s2.2.1), (0, .ref (ad19 a)), (1, .int p0), (2, .int p1)] → W p l e (headSpec wuX7_fresh ({ frames := 2, cells := y.1.length, slots := wt y.1, locals := 48 })).room s m ([.ref (ad a), .int p0, .int p1] : List Value).toArray below meth c H locs (s2.1 : NN).length (wt s2.1) (MQ below (va_Qr (fun (u : Nat → Nat) => agr G.1 ad u) (fun u q t => (∃ b, y.2.2 = some b ∧ q = u b) ∧ kE D ct u (xt G y.1) A y.2.1 t) A) ([.ref (ad a), .int p0, .int p1] : List Value).toArray s y.1.length (wt y.1) A) (F0 m 5 ls [])) ?_ _ _ _ hy1 ⟨[], (List.append_nil _).symm⟩ eL4 _ hag _ _ _ hP hD hS (lv_sub hl [0, 1, 2, 3, 4] rfl)
  rintro s2 r20 ⟨z21, hF, ⟨t1, et1⟩, hwz21⟩ ⟨u1, eu1⟩ eq1 ad19 hag H locs ls hP hD hS hl
  try dsimp only at hF
  obtain ⟨L22, eL22⟩ : ∃ x, x = s2.1 ++ z21.1 := ⟨_, rfl⟩
  obtain ⟨w23, hw23⟩ : ∃ x, x = z21 := ⟨_, rfl⟩
  rw [← hw23] at hF
  have hbl : L22.length ≤ y.1.length ∧ wt L22 ≤ wt y.1 := room_d (show L4 = L22 ++ t1 by rw [eq1, et1, eL22]; simp only [List.append_assoc]) hbl4
  have hT : L22 = s2.1 ++ w23.1 := by rw [eL22, hw23]
  have h2 : z21.2 = w23.2 := by rw [hw23]
  have hk : (xt G s2.1).2.1 a = 7 := by rw [eu1]; exact xt_k _ hc hk
  have hc : a < (xt G s2.1).1 := by rw [eu1]; exact xt_l _ hc
  refine lv_iload hx hb dX7_fresh_5 (lv_at hl 0 rfl) ?_
  refine lv_aload_n hx hb dX7_fresh_7 rfl (lv_at hl 2 rfl) ?_
  refine va_get (D := D) (ci := 7) (v := va_re ad19 (s2.2.2.2.2 a 0)) (C := RX7) (T := TX7) (N := 17) hx hb hts (mus hf_X7) hown hK hP a (wld_o ct ad19 (xt G s2.1) s2.2.2.2 hc hk (by decide)) rfl 0 (by decide) (hts (.fieldLink RX7 13 "VideoSuite$Store" "pool" "[LVideoSuite$Picture;") (mu mw_355)) (fun _ h9 => h9) rfl dX7_fresh_8 ?_
  obtain ⟨b24, ho24, hc24, hk24, hF⟩ := dr_some hF
  refine W_st (st' := [.ref (ad19 b24), .int s2.2.2.1]) (by rw [va_some ho24]) ?_
  refine va_alen (v := Int32.ofNat ((xt G s2.1).2.2 b24)) hx hb hK hP b24 2 (wld_r ct ad19 (xt G s2.1) s2.2.2.2 hc24 hk24) rfl rfl dX7_fresh_11 ?_
  obtain ⟨x25, ex25, hF⟩ := ltt_some hF
  refine lv_topi (fun zx25 ezx25 => ?_)
  obtain rfl : x25 = zx25 := ex25.trans ezx25.symm
  refine lv_icmp_ge (tgt := 65) hx hb dX7_fresh_12 (by decide) (fun c26 => ?_) (fun c26 => ?_)
  · rw [if_pos c26] at hF
    obtain rfl := Option.some.inj hF
    have e1 : L22 = s2.1 := by rw [hT]; exact List.append_nil _
    have e2 : z21.2 = .inr ((s2.2.1, s2.2.2.1, s2.2.2.2)) := h2
    rw [e2] at hwz21
    obtain ⟨hw1, hw2⟩ := hwz21
    have e8 : L4 = s2.1 := by rw [eq1, hw2, ← eL22, e1]
    rw [e8] at K1
    try rw [← hw1] at K1
    exact K1 _ hag _ _ _ hP hD hS (lv_sub hl [1, 2, 3, 4] rfl)
  · rw [if_neg c26] at hF
    refine lv_aload_n hx hb dX7_fresh_15 rfl (lv_at hl 2 rfl) ?_
    refine va_get (D := D) (ci := 7) (v := va_re ad19 (s2.2.2.2.2 a 0)) (C := RX7) (T := TX7) (N := 17) hx hb hts (mus hf_X7) hown hK hP a (wld_o ct ad19 (xt G s2.1) s2.2.2.2 hc hk (by decide)) rfl 0 (by decide) (hts (.fieldLink RX7 13 "VideoSuite$Store" "pool" "[LVideoSuite$Picture;") (mu mw_355)) (fun _ h9 => h9) rfl dX7_fresh_16 ?_
    refine lv_iload hx hb dX7_fresh_19 (lv_at hl 0 rfl) ?_
    refine W_st (st' := [.int s2.2.2.1, .ref (ad19 b24)]) (by rw [va_some ho24]) ?_
    obtain ⟨hvc, hF⟩ := chk_some hF
    refine ld_q hx hb hK hP hc24 hk24 hvc dX7_fresh_21 ?_
    obtain ⟨y27, hy27, hF⟩ := bnd_some hF
    obtain ⟨w28, hF, ew28⟩ := app_some hF
    obtain ⟨L29, eL29, hF⟩ := ltt_some hF
    have hT29 : L22 = (s2.1 ++ y27.1) ++ w28.1 := by rw [hT, ew28]; simp only [List.append_assoc]
    have hbl29 : L29.length ≤ y.1.length ∧ wt L29 ≤ wt y.1 := by rw [eL29]; exact room_d hT29 hbl
    have J27 : ∀ (ad30 : Nat → Nat), agr G.1 ad ad30 → ∀ (H : Heap) (locs : List Loc) (ls : Array Slot), va_P D classes (wld ct ad30 (xt G L29) y27.2) H → va_D A (wld ct ad30 (xt G L29) y27.2) → va_S A s.heap H locs → lv_has ls 5 [(4, .int s2.2.2.1), (3, .int s2.2.1), (0, .ref (ad30 a)), (1, .int p0), (2, .int p1)] → W p l e (headSpec wuX7_fresh ({ frames := 2, cells := y.1.length, slots := wt y.1, locals := 48 })).room s m ([.ref (ad a), .int p0, .int p1] : List Value).toArray below meth c H locs (L29 : NN).length (wt L29) (MQ below (va_Qr (fun (u : Nat → Nat) => agr G.1 ad u) (fun u q t => (∃ b, y.2.2 = some b ∧ q = u b) ∧ kE D ct u (xt G y.1) A y.2.1 t) A) ([.ref (ad a), .int p0, .int p1] : List Value).toArray s y.1.length (wt y.1) A) (F0 m 39 ls []) := by
      intro ad30 hag H locs ls hP hD hS hl
      have hT : L22 = L29 ++ w28.1 := by rw [hT29, eL29]
      have h2 : z21.2 = w28.2 := by rw [h2, ew28]
      have hk : (xt G L29).2.1 a = 7 := by rw [eL29]; exact xt_k _ hc hk
      have hc : a < (xt G L29).1 := by rw [eL29]; exact xt_l _ hc
      have hk24 : (xt G L29).2.1 b24 = 14 := by rw [eL29]; exact xt_k _ hc24 hk24
      have hc24 : b24 < (xt G L29).1 := by rw [eL29]; exact xt_l _ hc24
      refine lv_aload_n hx hb dX7_fresh_39 rfl (lv_at hl 2 rfl) ?_
      refine lv_aload_n hx hb dX7_fresh_40 rfl (lv_at hl 2 rfl) ?_
      refine va_get (D := D) (ci := 7) (v := va_re ad30 (y27.2.2 a 0)) (C := RX7) (T := TX7) (N := 17) hx hb hts (mus hf_X7) hown hK hP a (wld_o ct ad30 (xt G L29) y27.2 hc hk (by decide)) rfl 0 (by decide) (hts (.fieldLink RX7 13 "VideoSuite$Store" "pool" "[LVideoSuite$Picture;") (mu mw_355)) (fun _ h9 => h9) rfl dX7_fresh_41 ?_
      refine lv_iload hx hb dX7_fresh_44 (lv_at hl 0 rfl) ?_
      obtain ⟨b31, ho31, hc31, hk31, hF⟩ := dr_some hF
      refine W_st (st' := [.int s2.2.2.1, .ref (ad30 b31), .ref (ad30 a)]) (by rw [va_some ho31]) ?_
      obtain ⟨hvc, hF⟩ := chk_some hF
      refine ld_q hx hb hK hP hc31 hk31 hvc dX7_fresh_46 ?_
      obtain ⟨y32, hy32, hF⟩ := bnd_some hF
      have hf9 := wA_in hD hA9 hS
      refine va_calli (va_runV (As := [va_re ad30 (y27.2.2 b31 s2.2.2.1.toNatClampNeg)]) (rest := []) ⟨hx, hb, hml, hown, hts⟩ (kX7_isNeeded l D ct ad30 Z (xt G L29) y27.2 H.size a ((y27.2.2 b31 s2.2.2.1.toNatClampNeg)) y32 hc hk hy32) (cwV 1 hts gX7_fresh_X7_isNeeded rfl rfl rfl (by decide +kernel) ⟨Nat.le_of_ble_eq_true rfl, Nat.le_of_ble_eq_true rfl⟩) ⟨fun a U g mk q => by obtain ⟨q0, q1, qP, qK, qD, qZ, qN⟩ := q; exact ⟨q0, q1, qP, va_K.moved (u := U) (U := U.calling g mk a) (Vm.Alike.refl U.vm) qK, qD, sF.moved (u := U) (U := U.calling g mk a) (Vm.Alike.refl U.vm) qZ, nF.same rfl qN⟩, va_recv hK hP (ci := 7) (q0 := a) rfl (wld_o ct ad30 (xt G L29) y27.2 hc hk (by decide)), fun U hU hW => ⟨rfl, by rw [hU], by rw [hU]; exact hP, va_K.moved hW.alike hK, hD.weaken (fun _ _ _ _ => trivial), by rw [hU]; exact ((hZ.kept hS.2.1).narrow hf9).moved hW.alike, hN.warm hW⟩⟩ rfl rfl hl.1 rfl (lv_room (Nat.le_of_ble_eq_true rfl)) dX7_fresh_47 (room_d hT hbl)) hS (fun q _ h => hf9 q h) hf9 (fun r u t H locs ht hvm hw hB hz1 hk1 hS => ?_)
      obtain ⟨hP, hK9, hD9⟩ := hB
      rw [ht] at hP
      try dsimp only at hw
      subst hw
      refine W_cs (k := (L29 : NN).length) (n := wt L29) rfl rfl ?_
      have hD := hD9.weaken (fun _ q _ h => hf9 q.1 h)
      refine lv_if_ne (tgt := 59) hx hb dX7_fresh_50 (by decide) (fun c33 => ?_) (fun c33 => ?_)
      · rw [if_neg c33] at hF
        obtain ⟨x34, ex34, hF⟩ := ltt_some hF
        refine lv_iinc (v := x34) (lv' := [(4, .int x34), (3, .int s2.2.1), (0, .ref (ad30 a)), (1, .int p0), (2, .int p1)]) hx hb dX7_fresh_59 hl (k := 0) rfl (by rw [ex34]; rfl) (by decide) rfl (fun ls hl => ?_)
        refine lv_goto (tgt := 5) hx hb dX7_fresh_62 (by decide) ?_
        obtain rfl := Option.some.inj hF
        have e1 : L22 = L29 := by rw [hT]; exact List.append_nil _
        have e2 : z21.2 = .inl (L29, (s2.2.1, x34, y32.1)) := h2
        rw [e2] at hwz21
        obtain ⟨r2, er2, hwz21⟩ := hwz21
        exact hwz21 ⟨u1 ++ z21.1, by show L29 = _; rw [← e1, eL22, eu1]; simp only [List.append_assoc]⟩ (by show L4 = L29 ++ r2; rw [eq1, er2, ← e1, eL22]; simp only [List.append_assoc]) _ hag _ _ _ hP hD hS (lv_sub hl [0, 1, 2, 3, 4] rfl)
      · rw [if_pos c33] at hF
        refine lv_iload hx hb dX7_fresh_53 (lv_at hl 0 rfl) ?_
        refine lv_istore_n (lv' := [(3, .int s2.2.2.1), (4, .int s2.2.2.1), (0, .ref (ad30 a)), (1, .int p0), (2, .int p1)]) hx hb dX7_fresh_55 rfl hl (by decide) rfl (fun ls hl => ?_)
        refine lv_goto (tgt := 65) hx hb dX7_fresh_56 (by decide) ?_
        obtain rfl := Option.some.inj hF
        have e1 : L22 = L29 := by rw [hT]; exact List.append_nil _
        have e2 : z21.2 = .inr ((s2.2.2.1, s2.2.2.1, y32.1)) := h2
        rw [e2] at hwz21
        obtain ⟨hw1, hw2⟩ := hwz21
        have e8 : L4 = L29 := by rw [eq1, hw2, ← eL22, e1]
        rw [e8] at K1
        try rw [← hw1] at K1
        exact K1 _ hag _ _ _ hP hD hS (lv_sub hl [0, 2, 3, 4] rfl)
    clear hF
    obtain ⟨w35, hw35⟩ : ∃ z, z = y27 := ⟨_, rfl⟩
    have hF := hy27
    rw [← hw35] at hF
    clear hy27
    have hT : L29 = s2.1 ++ w35.1 := by rw [eL29, hw35]
    have h2 : y27.2 = w35.2 := by rw [hw35]
    have hbl := hbl29
    refine lv_ifnonnullq (tgt := 39) hx hb dX7_fresh_22 (by decide) (fun c36 => ?_) (fun c36 => ?_)
    · rw [if_neg c36] at hF
      obtain rfl := Option.some.inj hF
      have e1 : L29 = s2.1 := by rw [hT]; exact List.append_nil _
      have e2 : y27.2 = s2.2.2.2 := h2
      rw [e1] at J27
      try rw [e2] at J27
      exact J27 _ hag _ _ _ hP hD hS (lv_sub hl [0, 1, 2, 3, 4] rfl)
    · rw [if_pos c36] at hF
      refine lv_aload_n hx hb dX7_fresh_25 rfl (lv_at hl 2 rfl) ?_
      refine va_get (D := D) (ci := 7) (v := va_re ad19 (s2.2.2.2.2 a 0)) (C := RX7) (T := TX7) (N := 17) hx hb hts (mus hf_X7) hown hK hP a (wld_o ct ad19 (xt G s2.1) s2.2.2.2 hc hk (by decide)) rfl 0 (by decide) (hts (.fieldLink RX7 13 "VideoSuite$Store" "pool" "[LVideoSuite$Picture;") (mu mw_355)) (fun _ h9 => h9) rfl dX7_fresh_26 ?_
      refine lv_iload hx hb dX7_fresh_29 (lv_at hl 0 rfl) ?_
      obtain ⟨hC37, hF⟩ := chkP_some hF
      obtain ⟨hq38, hF⟩ := chk_some hF
      obtain ⟨c39, ec39, hF⟩ := ltt_some hF
      obtain ⟨w40, hF, ew40⟩ := app_some hF
      obtain ⟨L41, eL41, hF⟩ := ltt_some hF
      have hT41 : L29 = (s2.1 ++ [(4, 0)]) ++ w40.1 := by rw [hT, ew40]; simp only [List.append_assoc]
      obtain ⟨M42, eM42, hF⟩ := ltt_some hF
      refine new_o (T := TX4) (κ := 4) hx hb hts (mus hf_X4) tyX4 tyX4_ok hown (hts (.classLink RX7 11 RX4) (mu mw_351)) (hts (.instantiable RX4 18) (mu mw_964)) (hts (.initialized RX4) (mu mw_185)) hK hP hD hS hA9 rfl (by decide) rfl dfX4 hC37 (room_1s hT41 hbl) dX7_fresh_31 (fun ad43 H hn44 hP hD hS => ?_)
      rw [← ec39, ← eL41, ← eM42] at hP hD
      refine W_cs (k := L41.length) (n := wt L41) (by rw [eL41]) (by rw [eL41]) ?_
      refine W_st (st' := [.ref (ad43 c39), .int s2.2.2.1, va_re ad19 (s2.2.2.2.2 a 0)]) (by rw [ec39]) ?_
      have hT : L29 = L41 ++ w40.1 := by rw [hT41, eL41]
      have h2 : y27.2 = w40.2 := by rw [h2, ew40]
      have hl := lv_sub (l' := [(4, .int s2.2.2.1), (3, .int s2.2.1), (0, .ref (ad19 a)), (1, .int p0), (2, .int p1)]) hl [0, 1, 2, 3, 4] rfl
      have e9 : ([(4, .int s2.2.2.1), (3, .int s2.2.1), (0, .ref (ad19 a)), (1, .int p0), (2, .int p1)] : List (Nat × Value)) = [(4, .int s2.2.2.1), (3, .int s2.2.1), (0, .ref (ad43 a)), (1, .int p0), (2, .int p1)] := (by first | rfl | simp only [hn44 a hc])
      rw [e9] at hl
      clear e9
      refine W_st (st' := [.ref (ad43 c39), .int s2.2.2.1, va_re ad43 (s2.2.2.2.2 a 0)]) (by first | rfl | simp only [agr_re hn44 hq38]) ?_
      have hk : (xt G L41).2.1 a = 7 := by rw [eL41]; exact xt_k _ hc hk
      have hc : a < (xt G L41).1 := by rw [eL41]; exact xt_l _ hc
      have hk24 : (xt G L41).2.1 b24 = 14 := by rw [eL41]; exact xt_k _ hc24 hk24
      have hc24 : b24 < (xt G L41).1 := by rw [eL41]; exact xt_l _ hc24
      have hag := agr_t (xt_ge _ _) hag hn44
      have hc39 : c39 < (xt G L41).1 := by rw [ec39, eL41]; exact cnt_new _ _ _
      have hk39 : (xt G L41).2.1 c39 = 4 := by rw [ec39, eL41]; exact (kind_new _ _ _ _).1
      refine lv_dup hx hb dX7_fresh_34 rfl ?_
      obtain ⟨hq46, hF⟩ := chk_some hF
      obtain ⟨y45, hy45, hF⟩ := bnd_some hF
      obtain ⟨w47, hF, ew47⟩ := app_some hF
      obtain ⟨L48, eL48, hF⟩ := ltt_some hF
      have hT48 : L29 = (L41 ++ y45.1) ++ w47.1 := by rw [hT, ew47]; simp only [List.append_assoc]
      have hf9 := wA_in hD hA9 hS
      refine va_callv (va_runIN (As := []) (rest := [.ref (ad43 c39), .int s2.2.2.1, va_re ad43 (s2.2.2.2.2 a 0)]) ⟨hx, hb, hml, hown, hts⟩ (kX4_init l D ct ad43 Z (xt G L41) M42 _ c39 y45 hc39 hk39 hy45) ⟨va_cnB 0 hts gX7_fresh_X4_init_n61 rfl rfl rfl (hN.1 (RX7, 61, yX4_init, RX11) (List.mem_of_getElem? (i := 22) rfl)) (hts (.initialized RX4) (mu mw_185)) (by decide +kernel) ⟨Nat.le_of_ble_eq_true rfl, Nat.le_of_ble_eq_true rfl⟩, rfl, (hts (.instanceMethod yX4_init) (mu mw_1414))⟩ ⟨fun a U g mk q => by obtain ⟨q0, q1, qP, qK, qD, qZ, qN⟩ := q; exact ⟨q0, q1, qP, va_K.moved (u := U) (U := U.calling g mk a) (Vm.Alike.refl U.vm) qK, qD, sF.moved (u := U) (U := U.calling g mk a) (Vm.Alike.refl U.vm) qZ, nF.same rfl qN⟩, fun U hU hW => ⟨rfl, by rw [hU], by rw [hU]; exact hP, va_K.moved hW.alike hK, hD.weaken (fun _ _ _ _ => trivial), by rw [hU]; exact ((hZ.kept hS.2.1).narrow hf9).moved hW.alike, hN.warm hW⟩⟩ rfl rfl hl.1 rfl (lv_room (by simp only [List.map, va_re_cat]; exact Nat.le_of_ble_eq_true rfl)) dX7_fresh_35 (room_s hT48 hbl)) hS (fun q _ h => hf9 q h) hf9 (fun ad49 t H locs ht hvm hw hB hz1 hk1 hS => ?_)
      have hn50 := hw
      obtain ⟨hP, hK9, hD9⟩ := hB
      rw [ht] at hP
      have hD := hD9.weaken (fun _ q _ h => hf9 q.1 h)
      rw [xt_xt, ← eL48] at hP hD
      refine W_cs (k := L48.length) (n := wt L48) (by rw [eL48]; exact (len_s L41 y45.1).symm) (by rw [eL48]; exact (wt_app L41 y45.1).symm) ?_
      have hT : L29 = L48 ++ w47.1 := by rw [hT48, eL48]
      have h2 : y27.2 = w47.2 := by rw [h2, ew47]
      have hl := lv_sub (l' := [(4, .int s2.2.2.1), (3, .int s2.2.1), (0, .ref (ad43 a)), (1, .int p0), (2, .int p1)]) hl [0, 1, 2, 3, 4] rfl
      have e9 : ([(4, .int s2.2.2.1), (3, .int s2.2.1), (0, .ref (ad43 a)), (1, .int p0), (2, .int p1)] : List (Nat × Value)) = [(4, .int s2.2.2.1), (3, .int s2.2.1), (0, .ref (ad49 a)), (1, .int p0), (2, .int p1)] := (by first | rfl | simp only [hn50 a hc])
      rw [e9] at hl
      clear e9
      refine W_st (st' := [.ref (ad49 c39), .int s2.2.2.1, va_re ad49 (s2.2.2.2.2 a 0)]) (by first | rfl | simp only [hn50 c39 hc39, agr_re hn50 hq46]) ?_
      have hk : (xt G L48).2.1 a = 7 := by rw [eL48]; exact xt_k _ hc hk
      have hc : a < (xt G L48).1 := by rw [eL48]; exact xt_l _ hc
      have hk24 : (xt G L48).2.1 b24 = 14 := by rw [eL48]; exact xt_k _ hc24 hk24
      have hc24 : b24 < (xt G L48).1 := by rw [eL48]; exact xt_l _ hc24
      have hk39 : (xt G L48).2.1 c39 = 4 := by rw [eL48]; exact xt_k _ hc39 hk39
      have hc39 : c39 < (xt G L48).1 := by rw [eL48]; exact xt_l _ hc39
      have hag := agr_t (xt_ge _ _) hag hn50
      refine W_st (st' := [.ref (ad49 c39), .int s2.2.2.1, .ref (ad49 b24)]) (by rw [va_some ho24]) ?_
      obtain ⟨hvc, hF⟩ := chk_some hF
      obtain ⟨ho9, hF⟩ := chk_some hF
      refine st_q (o := (some c39)) hx hb hK hP hD hS hc24 hk24 ho9 hvc dX7_fresh_38 (fun H locs hP hD hS => ?_)
      obtain ⟨M51, eM51, hF⟩ := ltt_some hF
      rw [← eM51] at hP hD
      obtain rfl := Option.some.inj hF
      have e1 : L29 = L48 := by rw [hT]; exact List.append_nil _
      have e2 : y27.2 = M51 := h2
      rw [e1] at J27
      try rw [e2] at J27
      exact J27 _ hag _ _ _ hP hD hS (lv_sub hl [0, 1, 2, 3, 4] rfl)
set_option maxRecDepth 20000 in
theorem gX7_gather_X7_belongs : GoodIn wuX7_gather (va_wsS RX7 115 yX7_belongs wuX7_belongs) := gu_S mw_1816 mw_1817 mw_170 mw_1818
set_option maxRecDepth 20000 in
set_option maxRecDepth 20000 in
theorem gX7_gather_X7_keyOf : GoodIn wuX7_gather (va_wsS RX7 119 yX7_keyOf wuX7_keyOf) := gu_S mw_1819 mw_1820 mw_170 mw_1821
theorem dX7_gather_0 : decode cX7_gather 0 = .ok (.aload_n 1, 1) := by decide +kernel
theorem dX7_gather_1 : decode cX7_gather 1 = .ok (.getfield 101, 3) := by decide +kernel
theorem dX7_gather_4 : decode cX7_gather 4 = .ok (.astore 6, 2) := by decide +kernel
theorem dX7_gather_6 : decode cX7_gather 6 = .ok (.aload_n 1, 1) := by decide +kernel
theorem dX7_gather_7 : decode cX7_gather 7 = .ok (.getfield 112, 3) := by decide +kernel
theorem dX7_gather_10 : decode cX7_gather 10 = .ok (.astore 7, 2) := by decide +kernel
theorem dX7_gather_12 : decode cX7_gather 12 = .ok (.iload_n 3, 1) := by decide +kernel
theorem dX7_gather_13 : decode cX7_gather 13 = .ok (.istore 8, 2) := by decide +kernel
theorem dX7_gather_15 : decode cX7_gather 15 = .ok (.iconst 0, 1) := by decide +kernel
theorem dX7_gather_16 : decode cX7_gather 16 = .ok (.istore 9, 2) := by decide +kernel
theorem dX7_gather_18 : decode cX7_gather 18 = .ok (.iload 9, 2) := by decide +kernel
theorem dX7_gather_20 : decode cX7_gather 20 = .ok (.aload_n 0, 1) := by decide +kernel
theorem dX7_gather_21 : decode cX7_gather 21 = .ok (.getfield 29, 3) := by decide +kernel
theorem dX7_gather_24 : decode cX7_gather 24 = .ok (.if_icmp .ge 117, 3) := by decide +kernel
theorem dX7_gather_27 : decode cX7_gather 27 = .ok (.aload_n 0, 1) := by decide +kernel
theorem dX7_gather_28 : decode cX7_gather 28 = .ok (.getfield 17, 3) := by decide +kernel
theorem dX7_gather_31 : decode cX7_gather 31 = .ok (.iload 9, 2) := by decide +kernel
theorem dX7_gather_33 : decode cX7_gather 33 = .ok (.aaload, 1) := by decide +kernel
theorem dX7_gather_34 : decode cX7_gather 34 = .ok (.astore 10, 2) := by decide +kernel
theorem dX7_gather_36 : decode cX7_gather 36 = .ok (.iload 8, 2) := by decide +kernel
theorem dX7_gather_38 : decode cX7_gather 38 = .ok (.bipush 8, 2) := by decide +kernel
theorem dX7_gather_40 : decode cX7_gather 40 = .ok (.if_icmp .gt 95, 3) := by decide +kernel
theorem dX7_gather_43 : decode cX7_gather 43 = .ok (.aload 10, 2) := by decide +kernel
theorem dX7_gather_45 : decode cX7_gather 45 = .ok (.aload 7, 2) := by decide +kernel
theorem dX7_gather_47 : decode cX7_gather 47 = .ok (.iload 4, 2) := by decide +kernel
theorem dX7_gather_49 : decode cX7_gather 49 = .ok (.invokestatic 115, 3) := by decide +kernel
theorem dX7_gather_52 : decode cX7_gather 52 = .ok (.ifCond .ne 6, 3) := by decide +kernel
theorem dX7_gather_55 : decode cX7_gather 55 = .ok (.goto 80, 3) := by decide +kernel
theorem dX7_gather_58 : decode cX7_gather 58 = .ok (.aload 10, 2) := by decide +kernel
theorem dX7_gather_60 : decode cX7_gather 60 = .ok (.aload 7, 2) := by decide +kernel
theorem dX7_gather_62 : decode cX7_gather 62 = .ok (.iload 4, 2) := by decide +kernel
theorem dX7_gather_64 : decode cX7_gather 64 = .ok (.iload 5, 2) := by decide +kernel
theorem dX7_gather_66 : decode cX7_gather 66 = .ok (.invokestatic 119, 3) := by decide +kernel
theorem dX7_gather_69 : decode cX7_gather 69 = .ok (.lstore 11, 2) := by decide +kernel
theorem dX7_gather_71 : decode cX7_gather 71 = .ok (.iload_n 2, 1) := by decide +kernel
theorem dX7_gather_72 : decode cX7_gather 72 = .ok (.iload 8, 2) := by decide +kernel
theorem dX7_gather_74 : decode cX7_gather 74 = .ok (.iadd, 1) := by decide +kernel
theorem dX7_gather_75 : decode cX7_gather 75 = .ok (.istore 13, 2) := by decide +kernel
theorem dX7_gather_77 : decode cX7_gather 77 = .ok (.iload 13, 2) := by decide +kernel
theorem dX7_gather_79 : decode cX7_gather 79 = .ok (.iload_n 2, 1) := by decide +kernel
theorem dX7_gather_80 : decode cX7_gather 80 = .ok (.iload_n 3, 1) := by decide +kernel
theorem dX7_gather_81 : decode cX7_gather 81 = .ok (.iadd, 1) := by decide +kernel
theorem dX7_gather_82 : decode cX7_gather 82 = .ok (.if_icmp .le 43, 3) := by decide +kernel
theorem dX7_gather_85 : decode cX7_gather 85 = .ok (.aload 6, 2) := by decide +kernel
theorem dX7_gather_87 : decode cX7_gather 87 = .ok (.iload 13, 2) := by decide +kernel
theorem dX7_gather_89 : decode cX7_gather 89 = .ok (.iconst 1, 1) := by decide +kernel
theorem dX7_gather_90 : decode cX7_gather 90 = .ok (.isub, 1) := by decide +kernel
theorem dX7_gather_91 : decode cX7_gather 91 = .ok (.aaload, 1) := by decide +kernel
theorem dX7_gather_92 : decode cX7_gather 92 = .ok (.aload 7, 2) := by decide +kernel
theorem dX7_gather_94 : decode cX7_gather 94 = .ok (.iload 4, 2) := by decide +kernel
theorem dX7_gather_96 : decode cX7_gather 96 = .ok (.iload 5, 2) := by decide +kernel
theorem dX7_gather_98 : decode cX7_gather 98 = .ok (.invokestatic 119, 3) := by decide +kernel
theorem dX7_gather_101 : decode cX7_gather 101 = .ok (.lload 11, 2) := by decide +kernel
theorem dX7_gather_103 : decode cX7_gather 103 = .ok (.lcmp, 1) := by decide +kernel
theorem dX7_gather_104 : decode cX7_gather 104 = .ok (.ifCond .le 21, 3) := by decide +kernel
theorem dX7_gather_107 : decode cX7_gather 107 = .ok (.aload 6, 2) := by decide +kernel
theorem dX7_gather_109 : decode cX7_gather 109 = .ok (.iload 13, 2) := by decide +kernel
theorem dX7_gather_111 : decode cX7_gather 111 = .ok (.aload 6, 2) := by decide +kernel
theorem dX7_gather_113 : decode cX7_gather 113 = .ok (.iload 13, 2) := by decide +kernel
theorem dX7_gather_115 : decode cX7_gather 115 = .ok (.iconst 1, 1) := by decide +kernel
theorem dX7_gather_116 : decode cX7_gather 116 = .ok (.isub, 1) := by decide +kernel
theorem dX7_gather_117 : decode cX7_gather 117 = .ok (.aaload, 1) := by decide +kernel
theorem dX7_gather_118 : decode cX7_gather 118 = .ok (.aastore, 1) := by decide +kernel
theorem dX7_gather_119 : decode cX7_gather 119 = .ok (.iinc 13 (-1), 3) := by decide +kernel
theorem dX7_gather_122 : decode cX7_gather 122 = .ok (.goto (-45), 3) := by decide +kernel
theorem dX7_gather_125 : decode cX7_gather 125 = .ok (.aload 6, 2) := by decide +kernel
theorem dX7_gather_127 : decode cX7_gather 127 = .ok (.iload 13, 2) := by decide +kernel
theorem dX7_gather_129 : decode cX7_gather 129 = .ok (.aload 10, 2) := by decide +kernel
theorem dX7_gather_131 : decode cX7_gather 131 = .ok (.aastore, 1) := by decide +kernel
theorem dX7_gather_132 : decode cX7_gather 132 = .ok (.iinc 8 1, 3) := by decide +kernel
theorem dX7_gather_135 : decode cX7_gather 135 = .ok (.iinc 9 1, 3) := by decide +kernel
theorem dX7_gather_138 : decode cX7_gather 138 = .ok (.goto (-120), 3) := by decide +kernel
theorem dX7_gather_141 : decode cX7_gather 141 = .ok (.iload 8, 2) := by decide +kernel
theorem dX7_gather_143 : decode cX7_gather 143 = .ok (.ireturn, 1) := by decide +kernel
def FX7_gather (G : GG) (M : DD) (a : Nat) (p0 : Option Nat) (p1 : Int32) (p2 : Int32) (p3 : Int32) (p4 : Int32) : Option (DD × Int32) :=
  dr G 9 p0 fun b2 =>
  bnd (itr (fun (s4 : Int32 × Int32 × DD) => ((ltt (s4.2.2.1 a 3) fun x7 =>
  if x7 ≤ s4.2.1 then (some (.inr (s4.1, s4.2.1, s4.2.2))) else
  (dr G 14 ((s4.2.2.2 a 2)) fun b9 =>
  chk (¬ (s4.2.1 < 0 ∨ G.2.2 b9 ≤ s4.2.1.toNatClampNeg)) <|
  bnd (if ((8 : Int32)) < s4.1 then (some (s4.1, s4.2.2)) else
  (bnd (FX7_belongs G s4.2.2 ((s4.2.2.2 b9 s4.2.1.toNatClampNeg)) ((M.2 b2 0)) p3) fun y13 =>
  bnd (if y13.2 = ((0 : Int32)) then (some (s4.1, y13.1)) else
  (bnd (FX7_keyOf G y13.1 ((s4.2.2.2 b9 s4.2.1.toNatClampNeg)) ((M.2 b2 0)) p3 p4) fun y16 =>
  ltt ((p1 + s4.1)) fun x17 =>
  bnd (itr (fun (s19 : Int32 × DD) => ((ltt ((p1 + p2)) fun x25 =>
  if s19.1 ≤ x25 then (some (.inr (s19.1, s19.2))) else
  (ltt ((s19.1 - ((1 : Int32)))) fun x27 =>
  dr G 14 ((M.2 b2 3)) fun b28 =>
  chk (¬ (x27 < 0 ∨ G.2.2 b28 ≤ x27.toNatClampNeg)) <|
  bnd (FX7_keyOf G s19.2 ((s19.2.2 b28 x27.toNatClampNeg)) ((M.2 b2 0)) p3 p4) fun y29 =>
  ltt (lg_cmp y29.2 y16.2) fun x30 =>
  if x30 ≤ ((0 : Int32)) then (some (.inr (s19.1, y29.1))) else
  (ltt ((s19.1 - ((1 : Int32)))) fun x32 =>
  chk (¬ (x32 < 0 ∨ G.2.2 b28 ≤ x32.toNatClampNeg)) <|
  chk (¬ (s19.1 < 0 ∨ G.2.2 b28 ≤ s19.1.toNatClampNeg)) <|
  chk (okr G 4 ((y29.1.2 b28 x32.toNatClampNeg)) = true) <|
  ltt (uP y29.1 b28 s19.1.toNatClampNeg ((y29.1.2 b28 x32.toNatClampNeg))) fun M33 =>
  ltt (s19.1 + (-1 : Int32)) fun x34 =>
  some (.inl (x34, M33))))) : Option ((Int32 × DD) ⊕ (Int32 × DD)))) 1000000 (x17, y16.1)) fun (y18 : Int32 × DD) =>
  dr G 14 ((M.2 b2 3)) fun b21 =>
  chk (¬ (y18.1 < 0 ∨ G.2.2 b21 ≤ y18.1.toNatClampNeg)) <|
  chk (okr G 4 ((s4.2.2.2 b9 s4.2.1.toNatClampNeg)) = true) <|
  ltt (uP y18.2 b21 y18.1.toNatClampNeg ((s4.2.2.2 b9 s4.2.1.toNatClampNeg))) fun M22 =>
  ltt (s4.1 + (1 : Int32)) fun x23 =>
  some (x23, M22))) fun (y14 : Int32 × DD) =>
  some (y14.1, y14.2))) fun (y10 : Int32 × DD) =>
  ltt (s4.2.1 + (1 : Int32)) fun x11 =>
  some (.inl (y10.1, x11, y10.2)))) : Option ((Int32 × Int32 × DD) ⊕ (Int32 × Int32 × DD)))) 1000000 (p2, (0 : Int32), M)) fun (y3 : Int32 × Int32 × DD) =>
  some (y3.2.2, y3.1)
set_option maxHeartbeats 4000000 in
set_option maxRecDepth 100000 in
theorem kX7_gather (l : Launch) (D : va_G) (ct : CT) (ad : Nat → Nat) (Z : Nat → Nat) (G : GG) (M : DD) (sz : Nat) (a : Nat) (p0 : Option Nat) (p1 : Int32) (p2 : Int32) (p3 : Int32) (p4 : Int32) (y : DD × Int32) (hc : a < G.1) (hk : G.2.1 a = 7) (hF : FX7_gather G M a p0 p1 p2 p3 p4 = some y) : Met l yX7_gather wuX7_gather ({ frames := 2, cells := 0, slots := 0, locals := 47 }) (va_Pc [.ref (ad a), va_re ad p0, .int p1, .int p2, .int p3, .int p4] (kB D ct ad Z G M sz)) (va_Qi (fun (q : Int32) (_ : Unit) => q = y.2) (fun _ t => kE D ct ad G (wA ad G sz) y.1 t) (wA ad G sz)) 0 0 (wA ad G sz) := by
  refine Met.ofW (cc := cX7_gather) (maxL := 14) (ret := (some .int)) (by decide) rfl ?_
  intro p e s m args below meth c s₁ B hml hv
  obtain ⟨rfl, hsz, hP, hK, hD0, hZ, hN⟩ := hv
  have hx := B.exec
  have hb := B.bytes
  have hr := B.returns
  have hts := atoms_spec (ws := wuX7_gather) B.pre
  have hown : s.vm.findClass RX7 = some m.cls := findClass_of_methodNamed B.named
  have hlocks := B.notSynchronized
  subst hsz
  have hD := wD_self (sz := s.heap.size) hD0
  have hA9 : ∀ q, s.heap.size ≤ q → wA ad G s.heap.size q := fun q h => Or.inr h
  generalize hAe : wA ad G s.heap.size = A at hD hA9 hZ ⊢
  have hS : va_S A s.heap s.heap [] := va_S.rf
  have hl := lv_entry ([.ref (ad a), va_re ad p0, .int p1, .int p2, .int p3, .int p4]) (n := 14) (by cases p0 <;> exact Nat.le_of_ble_eq_true rfl)
  rw [lg_entry_eq]
  generalize (lg_sl ([.ref (ad a), va_re ad p0, .int p1, .int p2, .int p3, .int p4]) ++ List.replicate (14 - (lg_sl ([.ref (ad a), va_re ad p0, .int p1, .int p2, .int p3, .int p4])).length) Slot.unset).toArray = ls at hl ⊢
  have hl : lv_has ls 14 [(0, .ref (ad a)), (1, va_re ad p0), (2, .int p1), (3, .int p2), (4, .int p3), (5, .int p4)] := by have e9 : lv_args 0 [.ref (ad a), va_re ad p0, .int p1, .int p2, .int p3, .int p4] = [(0, .ref (ad a)), (1, va_re ad p0), (2, .int p1), (3, .int p2), (4, .int p3), (5, .int p4)] := (by cases p0 <;> rfl); rw [e9] at hl; exact hl
  unfold FX7_gather at hF
  refine lv_aloadq_n hx hb dX7_gather_0 rfl (lv_at hl 1 rfl) ?_
  obtain ⟨b2, ho2, hc2, hk2, hF⟩ := dr_some hF
  refine W_st (st' := [.ref (ad b2)]) (by rw [va_some ho2]) ?_
  refine va_get (D := D) (ci := 9) (v := va_re ad (M.2 b2 3)) (C := RX9) (T := TX9) (N := 20) hx hb hts (mus hf_X9) hown hK hP b2 (wld_o ct ad G M hc2 hk2 (by decide)) rfl 3 (by decide) (hts (.fieldLink RX7 101 "VideoSuite$Work" "lists" "[LVideoSuite$Picture;") (mu mw_437)) (fun _ h9 => h9) rfl dX7_gather_1 ?_
  refine lv_astoreq (lv' := [(6, va_re ad (M.2 b2 3)), (0, .ref (ad a)), (1, va_re ad p0), (2, .int p1), (3, .int p2), (4, .int p3), (5, .int p4)]) hx hb dX7_gather_4 hl (by decide) rfl (fun ls hl => ?_)
  refine lv_aloadq_n hx hb dX7_gather_6 rfl (lv_at hl 2 rfl) ?_
  refine W_st (st' := [.ref (ad b2)]) (by rw [va_some ho2]) ?_
  refine va_get (D := D) (ci := 9) (v := va_re ad (M.2 b2 0)) (C := RX9) (T := TX9) (N := 20) hx hb hts (mus hf_X9) hown hK hP b2 (wld_o ct ad G M hc2 hk2 (by decide)) rfl 0 (by decide) (hts (.fieldLink RX7 112 "VideoSuite$Work" "pic" "LVideoSuite$Picture;") (mu mw_423)) (fun _ h9 => h9) rfl dX7_gather_7 ?_
  refine lv_astoreq (lv' := [(7, va_re ad (M.2 b2 0)), (6, va_re ad (M.2 b2 3)), (0, .ref (ad a)), (1, va_re ad p0), (2, .int p1), (3, .int p2), (4, .int p3), (5, .int p4)]) hx hb dX7_gather_10 hl (by decide) (by generalize ((M.2 b2 3)) = o9; cases o9 <;> rfl) (fun ls hl => ?_)
  refine lv_iload_n hx hb dX7_gather_12 rfl (lv_at hl 5 rfl) ?_
  refine lv_istore (lv' := [(8, .int p2), (7, va_re ad (M.2 b2 0)), (6, va_re ad (M.2 b2 3)), (0, .ref (ad a)), (1, va_re ad p0), (2, .int p1), (3, .int p2), (4, .int p3), (5, .int p4)]) hx hb dX7_gather_13 hl (by decide) (by generalize ((M.2 b2 0)) = o9; cases o9 <;> rfl) (fun ls hl => ?_)
  refine lv_iconst (v := (0 : Int32)) hx hb dX7_gather_15 (by decide) ?_
  refine lv_istore (lv' := [(9, .int (0 : Int32)), (8, .int p2), (7, va_re ad (M.2 b2 0)), (6, va_re ad (M.2 b2 3)), (0, .ref (ad a)), (1, va_re ad p0), (2, .int p1), (3, .int p2), (4, .int p3), (5, .int p4)]) hx hb dX7_gather_16 hl (by decide) rfl (fun ls hl => ?_)
  obtain ⟨y3, hy3, hF⟩ := bnd_some hF
  have K3 : ∀ (H : Heap) (locs : List Loc) (ls : Array Slot), va_P D classes (wld ct ad G y3.2.2) H → va_D A (wld ct ad G y3.2.2) → va_S A s.heap H locs → lv_has ls 14 [(9, .int y3.2.1), (8, .int y3.1), (7, va_re ad (M.2 b2 0)), (6, va_re ad (M.2 b2 3)), (0, .ref (ad a)), (1, va_re ad p0), (2, .int p1), (3, .int p2), (4, .int p3), (5, .int p4)] → W p l e (headSpec wuX7_gather ({ frames := 2, cells := 0, slots := 0, locals := 47 })).room s m ([.ref (ad a), va_re ad p0, .int p1, .int p2, .int p3, .int p4] : List Value).toArray below meth c H locs 0 0 (MQ below (va_Qi (fun (q : Int32) (_ : Unit) => q = y.2) (fun _ t => kE D ct ad G A y.1 t) A) ([.ref (ad a), va_re ad p0, .int p1, .int p2, .int p3, .int p4] : List Value).toArray s 0 0 A) (F0 m 141 ls []) := by
    intro H locs ls hP hD hS hl
    refine lv_iload hx hb dX7_gather_141 (lv_at hl 1 rfl) ?_
    obtain rfl := Option.some.inj hF
    exact W.iret (v := y3.1) hx hb hr (fun t ht hW => ⟨⟨_, (), rfl, rfl, ⟨by rw [ht]; exact hP, va_K.moved hW.alike hK, hD⟩⟩, hS.F ht⟩) hS.2.2 dX7_gather_143
  clear hF
  refine itr_rule (fun (s4 : Int32 × Int32 × DD) => ∀ (H : Heap) (locs : List Loc) (ls : Array Slot), va_P D classes (wld ct ad G s4.2.2) H → va_D A (wld ct ad G s4.2.2) → va_S A s.heap H locs → lv_has ls 14 [(9, .int s4.2.1), (8, .int s4.1), (7, va_re ad (M.2 b2 0)), (6, va_re ad (M.2 b2 3)), (0, .ref (ad a)), (1, va_re ad p0), (2, .int p1), (3, .int p2), (4, .int p3), (5, .int p4)] → W p l e (headSpec wuX7_gather ({ frames := 2, cells := 0, slots := 0, locals := 47 })).room s m ([.ref (ad a), va_re ad p0, .int p1, .int p2, .int p3, .int p4] : List Value).toArray below meth c H locs 0 0 (MQ below (va_Qi (fun (q : Int32) (_ : Unit) => q = y.2) (fun _ t => kE D ct ad G A y.1 t) A) ([.ref (ad a), va_re ad p0, .int p1, .int p2, .int p3, .int p4] : List Value).toArray s 0 0 A) (F0 m 18 ls [])) ?_ _ _ hy3 _ _ _ hP hD hS (lv_sub hl [0, 1, 2, 3, 4, 5, 6, 7, 8, 9] rfl)
  rintro s4 ⟨z6, hF, hwz6⟩ H locs ls hP hD hS hl
  try dsimp only at hF
  refine lv_iload hx hb dX7_gather_18 (lv_at hl 0 rfl) ?_
  refine lv_aload_n hx hb dX7_gather_20 rfl (lv_at hl 4 rfl) ?_
  refine va_get (D := D) (ci := 7) (v := .int (s4.2.2.1 a 3)) (C := RX7) (T := TX7) (N := 17) hx hb hts (mus hf_X7) hown hK hP a (wld_o ct ad G s4.2.2 hc hk (by decide)) rfl 3 (by decide) (hts (.fieldLink RX7 29 "VideoSuite$Store" "count" "I") (mu mw_358)) (fun _ h9 => h9) rfl dX7_gather_21 ?_
  obtain ⟨x7, ex7, hF⟩ := ltt_some hF
  refine lv_topi (fun zx7 ezx7 => ?_)
  obtain rfl : x7 = zx7 := ex7.trans ezx7.symm
  refine lv_icmp_ge (tgt := 141) hx hb dX7_gather_24 (by decide) (fun c8 => ?_) (fun c8 => ?_)
  · rw [if_pos c8] at hF
    obtain rfl := Option.some.inj hF
    subst hwz6
    exact K3 _ _ _ hP hD hS (lv_sub hl [0, 1, 2, 3, 4, 5, 6, 7, 8, 9] rfl)
  · rw [if_neg c8] at hF
    refine lv_aload_n hx hb dX7_gather_27 rfl (lv_at hl 4 rfl) ?_
    refine va_get (D := D) (ci := 7) (v := va_re ad (s4.2.2.2 a 2)) (C := RX7) (T := TX7) (N := 17) hx hb hts (mus hf_X7) hown hK hP a (wld_o ct ad G s4.2.2 hc hk (by decide)) rfl 2 (by decide) (hts (.fieldLink RX7 17 "VideoSuite$Store" "kept" "[LVideoSuite$Picture;") (mu mw_357)) (fun _ h9 => h9) rfl dX7_gather_28 ?_
    refine lv_iload hx hb dX7_gather_31 (lv_at hl 0 rfl) ?_
    obtain ⟨b9, ho9, hc9, hk9, hF⟩ := dr_some hF
    refine W_st (st' := [.int s4.2.1, .ref (ad b9)]) (by rw [va_some ho9]) ?_
    obtain ⟨hvc, hF⟩ := chk_some hF
    refine ld_q hx hb hK hP hc9 hk9 hvc dX7_gather_33 ?_
    refine lv_astoreq (lv' := [(10, va_re ad (s4.2.2.2 b9 s4.2.1.toNatClampNeg)), (9, .int s4.2.1), (8, .int s4.1), (7, va_re ad (M.2 b2 0)), (6, va_re ad (M.2 b2 3)), (0, .ref (ad a)), (1, va_re ad p0), (2, .int p1), (3, .int p2), (4, .int p3), (5, .int p4)]) hx hb dX7_gather_34 hl (by decide) rfl (fun ls hl => ?_)
    refine lv_iload hx hb dX7_gather_36 (lv_at hl 2 rfl) ?_
    refine lv_bipush (v := (8 : Int32)) hx hb dX7_gather_38 (by decide) ?_
    obtain ⟨y10, hy10, hF⟩ := bnd_some hF
    have J10 : ∀ (H : Heap) (locs : List Loc) (ls : Array Slot), va_P D classes (wld ct ad G y10.2) H → va_D A (wld ct ad G y10.2) → va_S A s.heap H locs → lv_has ls 14 [(10, va_re ad (s4.2.2.2 b9 s4.2.1.toNatClampNeg)), (9, .int s4.2.1), (8, .int y10.1), (7, va_re ad (M.2 b2 0)), (6, va_re ad (M.2 b2 3)), (0, .ref (ad a)), (1, va_re ad p0), (2, .int p1), (3, .int p2), (4, .int p3), (5, .int p4)] → W p l e (headSpec wuX7_gather ({ frames := 2, cells := 0, slots := 0, locals := 47 })).room s m ([.ref (ad a), va_re ad p0, .int p1, .int p2, .int p3, .int p4] : List Value).toArray below meth c H locs 0 0 (MQ below (va_Qi (fun (q : Int32) (_ : Unit) => q = y.2) (fun _ t => kE D ct ad G A y.1 t) A) ([.ref (ad a), va_re ad p0, .int p1, .int p2, .int p3, .int p4] : List Value).toArray s 0 0 A) (F0 m 135 ls []) := by
      intro H locs ls hP hD hS hl
      obtain ⟨x11, ex11, hF⟩ := ltt_some hF
      refine lv_iinc (v := x11) (lv' := [(9, .int x11), (10, va_re ad (s4.2.2.2 b9 s4.2.1.toNatClampNeg)), (8, .int y10.1), (7, va_re ad (M.2 b2 0)), (6, va_re ad (M.2 b2 3)), (0, .ref (ad a)), (1, va_re ad p0), (2, .int p1), (3, .int p2), (4, .int p3), (5, .int p4)]) hx hb dX7_gather_135 hl (k := 1) rfl (by rw [ex11]; rfl) (by decide) rfl (fun ls hl => ?_)
      refine lv_goto (tgt := 18) hx hb dX7_gather_138 (by decide) ?_
      obtain rfl := Option.some.inj hF
      exact hwz6 _ _ _ hP hD hS (lv_sub hl [0, 2, 3, 4, 5, 6, 7, 8, 9, 10] rfl)
    clear hF
    have hF := hy10
    clear hy10
    refine lv_icmp_gt (tgt := 135) hx hb dX7_gather_40 (by decide) (fun c12 => ?_) (fun c12 => ?_)
    · rw [if_pos c12] at hF
      obtain rfl := Option.some.inj hF
      exact J10 _ _ _ hP hD hS (lv_sub hl [0, 1, 2, 3, 4, 5, 6, 7, 8, 9, 10] rfl)
    · rw [if_neg c12] at hF
      refine lv_aloadq hx hb dX7_gather_43 (lv_at hl 0 rfl) ?_
      refine lv_aloadq hx hb dX7_gather_45 (lv_at hl 3 rfl) ?_
      refine lv_iload hx hb dX7_gather_47 (lv_at hl 9 rfl) ?_
      obtain ⟨y13, hy13, hF⟩ := bnd_some hF
      have hf9 := wA_in hD hA9 hS
      refine va_calli (va_runS (As := [va_re ad (s4.2.2.2 b9 s4.2.1.toNatClampNeg), va_re ad (M.2 b2 0), .int p3]) (rest := []) ⟨hx, hb, hml, hown, hts⟩ (kX7_belongs l D ct ad Z G s4.2.2 H.size ((s4.2.2.2 b9 s4.2.1.toNatClampNeg)) ((M.2 b2 0)) p3 y13 hy13) (va_cwS 3 hts gX7_gather_X7_belongs rfl rfl rfl (by decide +kernel) ⟨Nat.le_of_ble_eq_true rfl, Nat.le_of_ble_eq_true rfl⟩) ⟨fun a U g mk q => by obtain ⟨q0, q1, qP, qK, qD, qZ, qN⟩ := q; exact ⟨q0, q1, qP, va_K.moved (u := U) (U := U.calling g mk a) (Vm.Alike.refl U.vm) qK, qD, sF.moved (u := U) (U := U.calling g mk a) (Vm.Alike.refl U.vm) qZ, nF.same rfl qN⟩, fun U hU hW => ⟨rfl, by rw [hU], by rw [hU]; exact hP, va_K.moved hW.alike hK, hD.weaken (fun _ _ _ _ => trivial), by rw [hU]; exact ((hZ.kept hS.2.1).narrow hf9).moved hW.alike, hN.warm hW⟩⟩ rfl rfl hl.1 rfl (lv_room (Nat.le_of_ble_eq_true rfl)) dX7_gather_49 ⟨(Nat.zero_le _), (Nat.zero_le _)⟩) hS (fun q _ h => hf9 q h) hf9 (fun r u t H locs ht hvm hw hB hz1 hk1 hS => ?_)
      obtain ⟨hP, hK9, hD9⟩ := hB
      rw [ht] at hP
      try dsimp only at hw
      subst hw
      have hD := hD9.weaken (fun _ q _ h => hf9 q.1 h)
      obtain ⟨y14, hy14, hF⟩ := bnd_some hF
      have J14 : ∀ (H : Heap) (locs : List Loc) (ls : Array Slot), va_P D classes (wld ct ad G y14.2) H → va_D A (wld ct ad G y14.2) → va_S A s.heap H locs → lv_has ls 14 [(10, va_re ad (s4.2.2.2 b9 s4.2.1.toNatClampNeg)), (9, .int s4.2.1), (8, .int y14.1), (7, va_re ad (M.2 b2 0)), (6, va_re ad (M.2 b2 3)), (0, .ref (ad a)), (1, va_re ad p0), (2, .int p1), (3, .int p2), (4, .int p3), (5, .int p4)] → W p l e (headSpec wuX7_gather ({ frames := 2, cells := 0, slots := 0, locals := 47 })).room s m ([.ref (ad a), va_re ad p0, .int p1, .int p2, .int p3, .int p4] : List Value).toArray below meth c H locs 0 0 (MQ below (va_Qi (fun (q : Int32) (_ : Unit) => q = y.2) (fun _ t => kE D ct ad G A y.1 t) A) ([.ref (ad a), va_re ad p0, .int p1, .int p2, .int p3, .int p4] : List Value).toArray s 0 0 A) (F0 m 135 ls []) := by
        intro H locs ls hP hD hS hl
        obtain rfl := Option.some.inj hF
        exact J10 _ _ _ hP hD hS (lv_sub hl [0, 1, 2, 3, 4, 5, 6, 7, 8, 9, 10] rfl)
      clear hF
      have hF := hy14
      clear hy14
      refine lv_if_ne (tgt := 58) hx hb dX7_gather_52 (by decide) (fun c15 => ?_) (fun c15 => ?_)
      · rw [if_neg c15] at hF
        refine lv_aloadq hx hb dX7_gather_58 (lv_at hl 0 rfl) ?_
        refine lv_aloadq hx hb dX7_gather_60 (lv_at hl 3 rfl) ?_
        refine lv_iload hx hb dX7_gather_62 (lv_at hl 9 rfl) ?_
        refine lv_iload hx hb dX7_gather_64 (lv_at hl 10 rfl) ?_
        obtain ⟨y16, hy16, hF⟩ := bnd_some hF
        have hf9 := wA_in hD hA9 hS
        refine va_calll (va_runS (As := [va_re ad (s4.2.2.2 b9 s4.2.1.toNatClampNeg), va_re ad (M.2 b2 0), .int p3, .int p4]) (rest := []) ⟨hx, hb, hml, hown, hts⟩ (kX7_keyOf l D ct ad Z G y13.1 H.size ((s4.2.2.2 b9 s4.2.1.toNatClampNeg)) ((M.2 b2 0)) p3 p4 y16 hy16) (va_cwS 4 hts gX7_gather_X7_keyOf rfl rfl rfl (by decide +kernel) ⟨Nat.le_of_ble_eq_true rfl, Nat.le_of_ble_eq_true rfl⟩) ⟨fun a U g mk q => by obtain ⟨q0, q1, qP, qK, qD, qZ, qN⟩ := q; exact ⟨q0, q1, qP, va_K.moved (u := U) (U := U.calling g mk a) (Vm.Alike.refl U.vm) qK, qD, sF.moved (u := U) (U := U.calling g mk a) (Vm.Alike.refl U.vm) qZ, nF.same rfl qN⟩, fun U hU hW => ⟨rfl, by rw [hU], by rw [hU]; exact hP, va_K.moved hW.alike hK, hD.weaken (fun _ _ _ _ => trivial), by rw [hU]; exact ((hZ.kept hS.2.1).narrow hf9).moved hW.alike, hN.warm hW⟩⟩ rfl rfl hl.1 rfl (lv_room (Nat.le_of_ble_eq_true rfl)) dX7_gather_66 ⟨(Nat.zero_le _), (Nat.zero_le _)⟩) hS (fun q _ h => hf9 q h) hf9 (fun r u t H locs ht hvm hw hB hz1 hk1 hS => ?_)
        obtain ⟨hP, hK9, hD9⟩ := hB
        rw [ht] at hP
        try dsimp only at hw
        subst hw
        have hD := hD9.weaken (fun _ q _ h => hf9 q.1 h)
        refine lv_lstore (lv' := [(11, .long y16.2), (10, va_re ad (s4.2.2.2 b9 s4.2.1.toNatClampNeg)), (9, .int s4.2.1), (8, .int s4.1), (7, va_re ad (M.2 b2 0)), (6, va_re ad (M.2 b2 3)), (0, .ref (ad a)), (1, va_re ad p0), (2, .int p1), (3, .int p2), (4, .int p3), (5, .int p4)]) hx hb dX7_gather_69 hl (by decide) (by generalize ((s4.2.2.2 b9 s4.2.1.toNatClampNeg)) = o9; cases o9 <;> rfl) (fun ls hl => ?_)
        refine lv_iload_n hx hb dX7_gather_71 rfl (lv_at hl 8 rfl) ?_
        refine lv_iload hx hb dX7_gather_72 (lv_at hl 3 rfl) ?_
        refine lv_iadd hx hb dX7_gather_74 ?_
        obtain ⟨x17, ex17, hF⟩ := ltt_some hF
        refine lv_topi (fun zx17 ezx17 => ?_)
        obtain rfl : x17 = zx17 := ex17.trans ezx17.symm
        refine lv_istore (lv' := [(13, .int x17), (11, .long y16.2), (10, va_re ad (s4.2.2.2 b9 s4.2.1.toNatClampNeg)), (9, .int s4.2.1), (8, .int s4.1), (7, va_re ad (M.2 b2 0)), (6, va_re ad (M.2 b2 3)), (0, .ref (ad a)), (1, va_re ad p0), (2, .int p1), (3, .int p2), (4, .int p3), (5, .int p4)]) hx hb dX7_gather_75 hl (by decide) rfl (fun ls hl => ?_)
        obtain ⟨y18, hy18, hF⟩ := bnd_some hF
        have K18 : ∀ (H : Heap) (locs : List Loc) (ls : Array Slot), va_P D classes (wld ct ad G y18.2) H → va_D A (wld ct ad G y18.2) → va_S A s.heap H locs → lv_has ls 14 [(13, .int y18.1), (11, .long y16.2), (10, va_re ad (s4.2.2.2 b9 s4.2.1.toNatClampNeg)), (9, .int s4.2.1), (8, .int s4.1), (7, va_re ad (M.2 b2 0)), (6, va_re ad (M.2 b2 3)), (0, .ref (ad a)), (1, va_re ad p0), (2, .int p1), (3, .int p2), (4, .int p3), (5, .int p4)] → W p l e (headSpec wuX7_gather ({ frames := 2, cells := 0, slots := 0, locals := 47 })).room s m ([.ref (ad a), va_re ad p0, .int p1, .int p2, .int p3, .int p4] : List Value).toArray below meth c H locs 0 0 (MQ below (va_Qi (fun (q : Int32) (_ : Unit) => q = y.2) (fun _ t => kE D ct ad G A y.1 t) A) ([.ref (ad a), va_re ad p0, .int p1, .int p2, .int p3, .int p4] : List Value).toArray s 0 0 A) (F0 m 125 ls []) := by
          intro H locs ls hP hD hS hl
          refine lv_aloadq hx hb dX7_gather_125 (lv_at hl 6 rfl) ?_
          refine lv_iload hx hb dX7_gather_127 (lv_at hl 0 rfl) ?_
          refine lv_aloadq hx hb dX7_gather_129 (lv_at hl 2 rfl) ?_
          obtain ⟨b21, ho21, hc21, hk21, hF⟩ := dr_some hF
          refine W_st (st' := [va_re ad (s4.2.2.2 b9 s4.2.1.toNatClampNeg), .int y18.1, .ref (ad b21)]) (by rw [va_some ho21]) ?_
          obtain ⟨hvc, hF⟩ := chk_some hF
          obtain ⟨ho9, hF⟩ := chk_some hF
          refine st_q (o := ((s4.2.2.2 b9 s4.2.1.toNatClampNeg))) hx hb hK hP hD hS hc21 hk21 ho9 hvc dX7_gather_131 (fun H locs hP hD hS => ?_)
          obtain ⟨M22, eM22, hF⟩ := ltt_some hF
          rw [← eM22] at hP hD
          obtain ⟨x23, ex23, hF⟩ := ltt_some hF
          refine lv_iinc (v := x23) (lv' := [(8, .int x23), (13, .int y18.1), (11, .long y16.2), (10, va_re ad (s4.2.2.2 b9 s4.2.1.toNatClampNeg)), (9, .int s4.2.1), (7, va_re ad (M.2 b2 0)), (6, va_re ad (M.2 b2 3)), (0, .ref (ad a)), (1, va_re ad p0), (2, .int p1), (3, .int p2), (4, .int p3), (5, .int p4)]) hx hb dX7_gather_132 hl (k := 4) rfl (by rw [ex23]; rfl) (by decide) (by generalize ((M.2 b2 0)) = o9; cases o9 <;> rfl) (fun ls hl => ?_)
          obtain rfl := Option.some.inj hF
          exact J14 _ _ _ hP hD hS (lv_sub hl [3, 4, 0, 5, 6, 7, 8, 9, 10, 11, 12] rfl)
        clear hF
        refine itr_rule (fun (s19 : Int32 × DD) => ∀ (H : Heap) (locs : List Loc) (ls : Array Slot), va_P D classes (wld ct ad G s19.2) H → va_D A (wld ct ad G s19.2) → va_S A s.heap H locs → lv_has ls 14 [(13, .int s19.1), (11, .long y16.2), (10, va_re ad (s4.2.2.2 b9 s4.2.1.toNatClampNeg)), (9, .int s4.2.1), (8, .int s4.1), (7, va_re ad (M.2 b2 0)), (6, va_re ad (M.2 b2 3)), (0, .ref (ad a)), (1, va_re ad p0), (2, .int p1), (3, .int p2), (4, .int p3), (5, .int p4)] → W p l e (headSpec wuX7_gather ({ frames := 2, cells := 0, slots := 0, locals := 47 })).room s m ([.ref (ad a), va_re ad p0, .int p1, .int p2, .int p3, .int p4] : List Value).toArray below meth c H locs 0 0 (MQ below (va_Qi (fun (q : Int32) (_ : Unit) => q = y.2) (fun _ t => kE D ct ad G A y.1 t) A) ([.ref (ad a), va_re ad p0, .int p1, .int p2, .int p3, .int p4] : List Value).toArray s 0 0 A) (F0 m 77 ls [])) ?_ _ _ hy18 _ _ _ hP hD hS (lv_sub hl [0, 1, 2, 3, 4, 5, 6, 7, 8, 9, 10, 11, 12] rfl)
        rintro s19 ⟨z24, hF, hwz24⟩ H locs ls hP hD hS hl
        try dsimp only at hF
        refine lv_iload hx hb dX7_gather_77 (lv_at hl 0 rfl) ?_
        refine lv_iload_n hx hb dX7_gather_79 rfl (lv_at hl 9 rfl) ?_
        refine lv_iload_n hx hb dX7_gather_80 rfl (lv_at hl 10 rfl) ?_
        refine lv_iadd hx hb dX7_gather_81 ?_
        obtain ⟨x25, ex25, hF⟩ := ltt_some hF
        refine lv_topi (fun zx25 ezx25 => ?_)
        obtain rfl : x25 = zx25 := ex25.trans ezx25.symm
        refine lv_icmp_le (tgt := 125) hx hb dX7_gather_82 (by decide) (fun c26 => ?_) (fun c26 => ?_)
        · rw [if_pos c26] at hF
          obtain rfl := Option.some.inj hF
          subst hwz24
          exact K18 _ _ _ hP hD hS (lv_sub hl [0, 1, 2, 3, 4, 5, 6, 7, 8, 9, 10, 11, 12] rfl)
        · rw [if_neg c26] at hF
          refine lv_aloadq hx hb dX7_gather_85 (lv_at hl 6 rfl) ?_
          refine lv_iload hx hb dX7_gather_87 (lv_at hl 0 rfl) ?_
          refine lv_iconst (v := (1 : Int32)) hx hb dX7_gather_89 (by decide) ?_
          refine lv_isub hx hb dX7_gather_90 ?_
          obtain ⟨x27, ex27, hF⟩ := ltt_some hF
          refine lv_topi (fun zx27 ezx27 => ?_)
          obtain rfl : x27 = zx27 := ex27.trans ezx27.symm
          obtain ⟨b28, ho28, hc28, hk28, hF⟩ := dr_some hF
          refine W_st (st' := [.int x27, .ref (ad b28)]) (by rw [va_some ho28]) ?_
          obtain ⟨hvc, hF⟩ := chk_some hF
          refine ld_q hx hb hK hP hc28 hk28 hvc dX7_gather_91 ?_
          refine lv_aloadq hx hb dX7_gather_92 (lv_at hl 5 rfl) ?_
          refine lv_iload hx hb dX7_gather_94 (lv_at hl 11 rfl) ?_
          refine lv_iload hx hb dX7_gather_96 (lv_at hl 12 rfl) ?_
          obtain ⟨y29, hy29, hF⟩ := bnd_some hF
          have hf9 := wA_in hD hA9 hS
          refine va_calll (va_runS (As := [va_re ad (s19.2.2 b28 x27.toNatClampNeg), va_re ad (M.2 b2 0), .int p3, .int p4]) (rest := []) ⟨hx, hb, hml, hown, hts⟩ (kX7_keyOf l D ct ad Z G s19.2 H.size ((s19.2.2 b28 x27.toNatClampNeg)) ((M.2 b2 0)) p3 p4 y29 hy29) (va_cwS 4 hts gX7_gather_X7_keyOf rfl rfl rfl (by decide +kernel) ⟨Nat.le_of_ble_eq_true rfl, Nat.le_of_ble_eq_true rfl⟩) ⟨fun a U g mk q => by obtain ⟨q0, q1, qP, qK, qD, qZ, qN⟩ := q; exact ⟨q0, q1, qP, va_K.moved (u := U) (U := U.calling g mk a) (Vm.Alike.refl U.vm) qK, qD, sF.moved (u := U) (U := U.calling g mk a) (Vm.Alike.refl U.vm) qZ, nF.same rfl qN⟩, fun U hU hW => ⟨rfl, by rw [hU], by rw [hU]; exact hP, va_K.moved hW.alike hK, hD.weaken (fun _ _ _ _ => trivial), by rw [hU]; exact ((hZ.kept hS.2.1).narrow hf9).moved hW.alike, hN.warm hW⟩⟩ rfl rfl hl.1 rfl (lv_room (Nat.le_of_ble_eq_true rfl)) dX7_gather_98 ⟨(Nat.zero_le _), (Nat.zero_le _)⟩) hS (fun q _ h => hf9 q h) hf9 (fun r u t H locs ht hvm hw hB hz1 hk1 hS => ?_)
          obtain ⟨hP, hK9, hD9⟩ := hB
          rw [ht] at hP
          try dsimp only at hw
          subst hw
          have hD := hD9.weaken (fun _ q _ h => hf9 q.1 h)
          refine lv_lload hx hb dX7_gather_101 (lv_at hl 1 rfl) ?_
          refine W.lcmp hx hb dX7_gather_103 ?_
          obtain ⟨x30, ex30, hF⟩ := ltt_some hF
          refine lv_topi (fun zx30 ezx30 => ?_)
          obtain rfl : x30 = zx30 := ex30.trans ezx30.symm
          refine lv_if_le (tgt := 125) hx hb dX7_gather_104 (by decide) (fun c31 => ?_) (fun c31 => ?_)
          · rw [if_pos c31] at hF
            obtain rfl := Option.some.inj hF
            subst hwz24
            exact K18 _ _ _ hP hD hS (lv_sub hl [0, 1, 2, 3, 4, 5, 6, 7, 8, 9, 10, 11, 12] rfl)
          · rw [if_neg c31] at hF
            refine lv_aloadq hx hb dX7_gather_107 (lv_at hl 6 rfl) ?_
            refine lv_iload hx hb dX7_gather_109 (lv_at hl 0 rfl) ?_
            refine lv_aloadq hx hb dX7_gather_111 (lv_at hl 6 rfl) ?_
            refine lv_iload hx hb dX7_gather_113 (lv_at hl 0 rfl) ?_
            refine lv_iconst (v := (1 : Int32)) hx hb dX7_gather_115 (by decide) ?_
            refine lv_isub hx hb dX7_gather_116 ?_
            obtain ⟨x32, ex32, hF⟩ := ltt_some hF
            refine lv_topi (fun zx32 ezx32 => ?_)
            obtain rfl : x32 = zx32 := ex32.trans ezx32.symm
            refine W_st (st' := [.int x32, .ref (ad b28), .int s19.1, .ref (ad b28)]) (by rw [va_some ho28]) ?_
            obtain ⟨hvc, hF⟩ := chk_some hF
            refine ld_q hx hb hK hP hc28 hk28 hvc dX7_gather_117 ?_
            obtain ⟨hvc, hF⟩ := chk_some hF
            obtain ⟨ho9, hF⟩ := chk_some hF
            refine st_q (o := ((y29.1.2 b28 x32.toNatClampNeg))) hx hb hK hP hD hS hc28 hk28 ho9 hvc dX7_gather_118 (fun H locs hP hD hS => ?_)
            obtain ⟨M33, eM33, hF⟩ := ltt_some hF
            rw [← eM33] at hP hD
            obtain ⟨x34, ex34, hF⟩ := ltt_some hF
            refine lv_iinc (v := x34) (lv' := [(13, .int x34), (11, .long y16.2), (10, va_re ad (s4.2.2.2 b9 s4.2.1.toNatClampNeg)), (9, .int s4.2.1), (8, .int s4.1), (7, va_re ad (M.2 b2 0)), (6, va_re ad (M.2 b2 3)), (0, .ref (ad a)), (1, va_re ad p0), (2, .int p1), (3, .int p2), (4, .int p3), (5, .int p4)]) hx hb dX7_gather_119 hl (k := 0) rfl (by rw [ex34]; rfl) (by decide) rfl (fun ls hl => ?_)
            refine lv_goto (tgt := 77) hx hb dX7_gather_122 (by decide) ?_
            obtain rfl := Option.some.inj hF
            exact hwz24 _ _ _ hP hD hS (lv_sub hl [0, 1, 2, 3, 4, 5, 6, 7, 8, 9, 10, 11, 12] rfl)
      · rw [if_pos c15] at hF
        refine lv_goto (tgt := 135) hx hb dX7_gather_55 (by decide) ?_
        obtain rfl := Option.some.inj hF
        exact J14 _ _ _ hP hD hS (lv_sub hl [0, 1, 2, 3, 4, 5, 6, 7, 8, 9, 10] rfl)
set_option maxRecDepth 20000 in
theorem gX7_makeLists_X7_gather : GoodIn wuX7_makeLists (wsV RX7 104 RX7 yX7_gather wuX7_gather) := gu_V mw_1812 mw_1814 mw_47 mw_170 mw_1815
set_option maxRecDepth 20000 in
set_option maxRecDepth 20000 in
theorem gX7_makeLists_X7_tellApart : GoodIn wuX7_makeLists (va_wsS RX7 108 yX7_tellApart wuX7_tellApart) := gu_S mw_1823 mw_1824 mw_170 mw_1825
theorem dX7_makeLists_0 : decode cX7_makeLists 0 = .ok (.aload_n 1, 1) := by decide +kernel
theorem dX7_makeLists_1 : decode cX7_makeLists 1 = .ok (.getfield 95, 3) := by decide +kernel
theorem dX7_makeLists_4 : decode cX7_makeLists 4 = .ok (.getfield 73, 3) := by decide +kernel
theorem dX7_makeLists_7 : decode cX7_makeLists 7 = .ok (.astore_n 3, 1) := by decide +kernel
theorem dX7_makeLists_8 : decode cX7_makeLists 8 = .ok (.aload_n 1, 1) := by decide +kernel
theorem dX7_makeLists_9 : decode cX7_makeLists 9 = .ok (.getfield 101, 3) := by decide +kernel
theorem dX7_makeLists_12 : decode cX7_makeLists 12 = .ok (.astore 4, 2) := by decide +kernel
theorem dX7_makeLists_14 : decode cX7_makeLists 14 = .ok (.iconst 0, 1) := by decide +kernel
theorem dX7_makeLists_15 : decode cX7_makeLists 15 = .ok (.istore 5, 2) := by decide +kernel
theorem dX7_makeLists_17 : decode cX7_makeLists 17 = .ok (.iload 5, 2) := by decide +kernel
theorem dX7_makeLists_19 : decode cX7_makeLists 19 = .ok (.aload 4, 2) := by decide +kernel
theorem dX7_makeLists_21 : decode cX7_makeLists 21 = .ok (.arraylength, 1) := by decide +kernel
theorem dX7_makeLists_22 : decode cX7_makeLists 22 = .ok (.if_icmp .ge 15, 3) := by decide +kernel
theorem dX7_makeLists_25 : decode cX7_makeLists 25 = .ok (.aload 4, 2) := by decide +kernel
theorem dX7_makeLists_27 : decode cX7_makeLists 27 = .ok (.iload 5, 2) := by decide +kernel
theorem dX7_makeLists_29 : decode cX7_makeLists 29 = .ok (.aconst_null, 1) := by decide +kernel
theorem dX7_makeLists_30 : decode cX7_makeLists 30 = .ok (.aastore, 1) := by decide +kernel
theorem dX7_makeLists_31 : decode cX7_makeLists 31 = .ok (.iinc 5 1, 3) := by decide +kernel
theorem dX7_makeLists_34 : decode cX7_makeLists 34 = .ok (.goto (-17), 3) := by decide +kernel
theorem dX7_makeLists_37 : decode cX7_makeLists 37 = .ok (.aload_n 3, 1) := by decide +kernel
theorem dX7_makeLists_38 : decode cX7_makeLists 38 = .ok (.iconst 1, 1) := by decide +kernel
theorem dX7_makeLists_39 : decode cX7_makeLists 39 = .ok (.iaload, 1) := by decide +kernel
theorem dX7_makeLists_40 : decode cX7_makeLists 40 = .ok (.ifCond .ne 28, 3) := by decide +kernel
theorem dX7_makeLists_43 : decode cX7_makeLists 43 = .ok (.aload_n 0, 1) := by decide +kernel
theorem dX7_makeLists_44 : decode cX7_makeLists 44 = .ok (.aload_n 1, 1) := by decide +kernel
theorem dX7_makeLists_45 : decode cX7_makeLists 45 = .ok (.iconst 0, 1) := by decide +kernel
theorem dX7_makeLists_46 : decode cX7_makeLists 46 = .ok (.iconst 0, 1) := by decide +kernel
theorem dX7_makeLists_47 : decode cX7_makeLists 47 = .ok (.iconst 0, 1) := by decide +kernel
theorem dX7_makeLists_48 : decode cX7_makeLists 48 = .ok (.iload_n 2, 1) := by decide +kernel
theorem dX7_makeLists_49 : decode cX7_makeLists 49 = .ok (.invokevirtual 104, 3) := by decide +kernel
theorem dX7_makeLists_52 : decode cX7_makeLists 52 = .ok (.istore 5, 2) := by decide +kernel
theorem dX7_makeLists_54 : decode cX7_makeLists 54 = .ok (.aload_n 0, 1) := by decide +kernel
theorem dX7_makeLists_55 : decode cX7_makeLists 55 = .ok (.aload_n 1, 1) := by decide +kernel
theorem dX7_makeLists_56 : decode cX7_makeLists 56 = .ok (.iconst 0, 1) := by decide +kernel
theorem dX7_makeLists_57 : decode cX7_makeLists 57 = .ok (.iload 5, 2) := by decide +kernel
theorem dX7_makeLists_59 : decode cX7_makeLists 59 = .ok (.iconst 3, 1) := by decide +kernel
theorem dX7_makeLists_60 : decode cX7_makeLists 60 = .ok (.iload_n 2, 1) := by decide +kernel
theorem dX7_makeLists_61 : decode cX7_makeLists 61 = .ok (.invokevirtual 104, 3) := by decide +kernel
theorem dX7_makeLists_64 : decode cX7_makeLists 64 = .ok (.pop, 1) := by decide +kernel
theorem dX7_makeLists_65 : decode cX7_makeLists 65 = .ok (.goto 89, 3) := by decide +kernel
theorem dX7_makeLists_68 : decode cX7_makeLists 68 = .ok (.aload_n 3, 1) := by decide +kernel
theorem dX7_makeLists_69 : decode cX7_makeLists 69 = .ok (.iconst 1, 1) := by decide +kernel
theorem dX7_makeLists_70 : decode cX7_makeLists 70 = .ok (.iaload, 1) := by decide +kernel
theorem dX7_makeLists_71 : decode cX7_makeLists 71 = .ok (.iconst 1, 1) := by decide +kernel
theorem dX7_makeLists_72 : decode cX7_makeLists 72 = .ok (.if_icmp .ne 82, 3) := by decide +kernel
theorem dX7_makeLists_75 : decode cX7_makeLists 75 = .ok (.aload_n 0, 1) := by decide +kernel
theorem dX7_makeLists_76 : decode cX7_makeLists 76 = .ok (.aload_n 1, 1) := by decide +kernel
theorem dX7_makeLists_77 : decode cX7_makeLists 77 = .ok (.iconst 0, 1) := by decide +kernel
theorem dX7_makeLists_78 : decode cX7_makeLists 78 = .ok (.iconst 0, 1) := by decide +kernel
theorem dX7_makeLists_79 : decode cX7_makeLists 79 = .ok (.iconst 1, 1) := by decide +kernel
theorem dX7_makeLists_80 : decode cX7_makeLists 80 = .ok (.iload_n 2, 1) := by decide +kernel
theorem dX7_makeLists_81 : decode cX7_makeLists 81 = .ok (.invokevirtual 104, 3) := by decide +kernel
theorem dX7_makeLists_84 : decode cX7_makeLists 84 = .ok (.istore 5, 2) := by decide +kernel
theorem dX7_makeLists_86 : decode cX7_makeLists 86 = .ok (.aload_n 0, 1) := by decide +kernel
theorem dX7_makeLists_87 : decode cX7_makeLists 87 = .ok (.aload_n 1, 1) := by decide +kernel
theorem dX7_makeLists_88 : decode cX7_makeLists 88 = .ok (.iconst 0, 1) := by decide +kernel
theorem dX7_makeLists_89 : decode cX7_makeLists 89 = .ok (.iload 5, 2) := by decide +kernel
theorem dX7_makeLists_91 : decode cX7_makeLists 91 = .ok (.iconst 2, 1) := by decide +kernel
theorem dX7_makeLists_92 : decode cX7_makeLists 92 = .ok (.iload_n 2, 1) := by decide +kernel
theorem dX7_makeLists_93 : decode cX7_makeLists 93 = .ok (.invokevirtual 104, 3) := by decide +kernel
theorem dX7_makeLists_96 : decode cX7_makeLists 96 = .ok (.istore 5, 2) := by decide +kernel
theorem dX7_makeLists_98 : decode cX7_makeLists 98 = .ok (.aload_n 0, 1) := by decide +kernel
theorem dX7_makeLists_99 : decode cX7_makeLists 99 = .ok (.aload_n 1, 1) := by decide +kernel
theorem dX7_makeLists_100 : decode cX7_makeLists 100 = .ok (.iconst 0, 1) := by decide +kernel
theorem dX7_makeLists_101 : decode cX7_makeLists 101 = .ok (.iload 5, 2) := by decide +kernel
theorem dX7_makeLists_103 : decode cX7_makeLists 103 = .ok (.iconst 3, 1) := by decide +kernel
theorem dX7_makeLists_104 : decode cX7_makeLists 104 = .ok (.iload_n 2, 1) := by decide +kernel
theorem dX7_makeLists_105 : decode cX7_makeLists 105 = .ok (.invokevirtual 104, 3) := by decide +kernel
theorem dX7_makeLists_108 : decode cX7_makeLists 108 = .ok (.pop, 1) := by decide +kernel
theorem dX7_makeLists_109 : decode cX7_makeLists 109 = .ok (.aload_n 0, 1) := by decide +kernel
theorem dX7_makeLists_110 : decode cX7_makeLists 110 = .ok (.aload_n 1, 1) := by decide +kernel
theorem dX7_makeLists_111 : decode cX7_makeLists 111 = .ok (.bipush 9, 2) := by decide +kernel
theorem dX7_makeLists_113 : decode cX7_makeLists 113 = .ok (.iconst 0, 1) := by decide +kernel
theorem dX7_makeLists_114 : decode cX7_makeLists 114 = .ok (.iconst 2, 1) := by decide +kernel
theorem dX7_makeLists_115 : decode cX7_makeLists 115 = .ok (.iload_n 2, 1) := by decide +kernel
theorem dX7_makeLists_116 : decode cX7_makeLists 116 = .ok (.invokevirtual 104, 3) := by decide +kernel
theorem dX7_makeLists_119 : decode cX7_makeLists 119 = .ok (.istore 5, 2) := by decide +kernel
theorem dX7_makeLists_121 : decode cX7_makeLists 121 = .ok (.aload_n 0, 1) := by decide +kernel
theorem dX7_makeLists_122 : decode cX7_makeLists 122 = .ok (.aload_n 1, 1) := by decide +kernel
theorem dX7_makeLists_123 : decode cX7_makeLists 123 = .ok (.bipush 9, 2) := by decide +kernel
theorem dX7_makeLists_125 : decode cX7_makeLists 125 = .ok (.iload 5, 2) := by decide +kernel
theorem dX7_makeLists_127 : decode cX7_makeLists 127 = .ok (.iconst 1, 1) := by decide +kernel
theorem dX7_makeLists_128 : decode cX7_makeLists 128 = .ok (.iload_n 2, 1) := by decide +kernel
theorem dX7_makeLists_129 : decode cX7_makeLists 129 = .ok (.invokevirtual 104, 3) := by decide +kernel
theorem dX7_makeLists_132 : decode cX7_makeLists 132 = .ok (.istore 5, 2) := by decide +kernel
theorem dX7_makeLists_134 : decode cX7_makeLists 134 = .ok (.aload_n 0, 1) := by decide +kernel
theorem dX7_makeLists_135 : decode cX7_makeLists 135 = .ok (.aload_n 1, 1) := by decide +kernel
theorem dX7_makeLists_136 : decode cX7_makeLists 136 = .ok (.bipush 9, 2) := by decide +kernel
theorem dX7_makeLists_138 : decode cX7_makeLists 138 = .ok (.iload 5, 2) := by decide +kernel
theorem dX7_makeLists_140 : decode cX7_makeLists 140 = .ok (.iconst 3, 1) := by decide +kernel
theorem dX7_makeLists_141 : decode cX7_makeLists 141 = .ok (.iload_n 2, 1) := by decide +kernel
theorem dX7_makeLists_142 : decode cX7_makeLists 142 = .ok (.invokevirtual 104, 3) := by decide +kernel
theorem dX7_makeLists_145 : decode cX7_makeLists 145 = .ok (.istore 5, 2) := by decide +kernel
theorem dX7_makeLists_147 : decode cX7_makeLists 147 = .ok (.aload 4, 2) := by decide +kernel
theorem dX7_makeLists_149 : decode cX7_makeLists 149 = .ok (.iload 5, 2) := by decide +kernel
theorem dX7_makeLists_151 : decode cX7_makeLists 151 = .ok (.invokestatic 108, 3) := by decide +kernel
theorem dX7_makeLists_154 : decode cX7_makeLists 154 = .ok (.iconst 0, 1) := by decide +kernel
theorem dX7_makeLists_155 : decode cX7_makeLists 155 = .ok (.istore 5, 2) := by decide +kernel
theorem dX7_makeLists_157 : decode cX7_makeLists 157 = .ok (.iload 5, 2) := by decide +kernel
theorem dX7_makeLists_159 : decode cX7_makeLists 159 = .ok (.bipush 9, 2) := by decide +kernel
theorem dX7_makeLists_161 : decode cX7_makeLists 161 = .ok (.if_icmp .ge 61, 3) := by decide +kernel
theorem dX7_makeLists_164 : decode cX7_makeLists 164 = .ok (.aload 4, 2) := by decide +kernel
theorem dX7_makeLists_166 : decode cX7_makeLists 166 = .ok (.iload 5, 2) := by decide +kernel
theorem dX7_makeLists_168 : decode cX7_makeLists 168 = .ok (.iload 5, 2) := by decide +kernel
theorem dX7_makeLists_170 : decode cX7_makeLists 170 = .ok (.aload_n 3, 1) := by decide +kernel
theorem dX7_makeLists_171 : decode cX7_makeLists 171 = .ok (.bipush 9, 2) := by decide +kernel
theorem dX7_makeLists_173 : decode cX7_makeLists 173 = .ok (.iaload, 1) := by decide +kernel
theorem dX7_makeLists_174 : decode cX7_makeLists 174 = .ok (.if_icmp .ge 11, 3) := by decide +kernel
theorem dX7_makeLists_177 : decode cX7_makeLists 177 = .ok (.aload 4, 2) := by decide +kernel
theorem dX7_makeLists_179 : decode cX7_makeLists 179 = .ok (.iload 5, 2) := by decide +kernel
theorem dX7_makeLists_181 : decode cX7_makeLists 181 = .ok (.aaload, 1) := by decide +kernel
theorem dX7_makeLists_182 : decode cX7_makeLists 182 = .ok (.goto 4, 3) := by decide +kernel
theorem dX7_makeLists_185 : decode cX7_makeLists 185 = .ok (.aconst_null, 1) := by decide +kernel
theorem dX7_makeLists_186 : decode cX7_makeLists 186 = .ok (.aastore, 1) := by decide +kernel
theorem dX7_makeLists_187 : decode cX7_makeLists 187 = .ok (.aload 4, 2) := by decide +kernel
theorem dX7_makeLists_189 : decode cX7_makeLists 189 = .ok (.bipush 9, 2) := by decide +kernel
theorem dX7_makeLists_191 : decode cX7_makeLists 191 = .ok (.iload 5, 2) := by decide +kernel
theorem dX7_makeLists_193 : decode cX7_makeLists 193 = .ok (.iadd, 1) := by decide +kernel
theorem dX7_makeLists_194 : decode cX7_makeLists 194 = .ok (.iload 5, 2) := by decide +kernel
theorem dX7_makeLists_196 : decode cX7_makeLists 196 = .ok (.aload_n 3, 1) := by decide +kernel
theorem dX7_makeLists_197 : decode cX7_makeLists 197 = .ok (.bipush 10, 2) := by decide +kernel
theorem dX7_makeLists_199 : decode cX7_makeLists 199 = .ok (.iaload, 1) := by decide +kernel
theorem dX7_makeLists_200 : decode cX7_makeLists 200 = .ok (.if_icmp .ge 14, 3) := by decide +kernel
theorem dX7_makeLists_203 : decode cX7_makeLists 203 = .ok (.aload 4, 2) := by decide +kernel
theorem dX7_makeLists_205 : decode cX7_makeLists 205 = .ok (.bipush 9, 2) := by decide +kernel
theorem dX7_makeLists_207 : decode cX7_makeLists 207 = .ok (.iload 5, 2) := by decide +kernel
theorem dX7_makeLists_209 : decode cX7_makeLists 209 = .ok (.iadd, 1) := by decide +kernel
theorem dX7_makeLists_210 : decode cX7_makeLists 210 = .ok (.aaload, 1) := by decide +kernel
theorem dX7_makeLists_211 : decode cX7_makeLists 211 = .ok (.goto 4, 3) := by decide +kernel
theorem dX7_makeLists_214 : decode cX7_makeLists 214 = .ok (.aconst_null, 1) := by decide +kernel
theorem dX7_makeLists_215 : decode cX7_makeLists 215 = .ok (.aastore, 1) := by decide +kernel
theorem dX7_makeLists_216 : decode cX7_makeLists 216 = .ok (.iinc 5 1, 3) := by decide +kernel
theorem dX7_makeLists_219 : decode cX7_makeLists 219 = .ok (.goto (-62), 3) := by decide +kernel
theorem dX7_makeLists_222 : decode cX7_makeLists 222 = .ok (.return_, 1) := by decide +kernel
def FX7_makeLists (G : GG) (M : DD) (a : Nat) (p0 : Option Nat) (p1 : Int32) : Option (DD) :=
  dr G 9 p0 fun b2 =>
  dr G 3 ((M.2 b2 1)) fun b3 =>
  bnd (itr (fun (s5 : Int32 × DD) => ((dr G 14 ((M.2 b2 3)) fun b42 =>
  ltt (Int32.ofNat (G.2.2 b42)) fun x43 =>
  if x43 ≤ s5.1 then (some (.inr (s5.1, s5.2))) else
  (chk (¬ (s5.1 < 0 ∨ G.2.2 b42 ≤ s5.1.toNatClampNeg)) <|
  chk (okr G 4 none = true) <|
  ltt (uP s5.2 b42 s5.1.toNatClampNeg none) fun M45 =>
  ltt (s5.1 + (1 : Int32)) fun x46 =>
  some (.inl (x46, M45)))) : Option ((Int32 × DD) ⊕ (Int32 × DD)))) 1000000 ((0 : Int32), M)) fun (y4 : Int32 × DD) =>
  dr G 13 ((M.2 b3 0)) fun b7 =>
  chk (¬ (((1 : Int32)) < 0 ∨ G.2.2 b7 ≤ ((1 : Int32)).toNatClampNeg)) <|
  ltt (y4.2.1 b7 ((1 : Int32)).toNatClampNeg) fun x8 =>
  bnd (if x8 = ((0 : Int32)) then (bnd (FX7_gather G y4.2 a p0 ((0 : Int32)) ((0 : Int32)) ((0 : Int32)) p1) fun y39 =>
  bnd (FX7_gather G y39.1 a p0 ((0 : Int32)) y39.2 ((3 : Int32)) p1) fun y40 =>
  some (y39.2, y40.1)) else
  (chk (¬ (((1 : Int32)) < 0 ∨ G.2.2 b7 ≤ ((1 : Int32)).toNatClampNeg)) <|
  ltt (y4.2.1 b7 ((1 : Int32)).toNatClampNeg) fun x29 =>
  bnd (if x29 = ((1 : Int32)) then (bnd (FX7_gather G y4.2 a p0 ((0 : Int32)) ((0 : Int32)) ((1 : Int32)) p1) fun y32 =>
  bnd (FX7_gather G y32.1 a p0 ((0 : Int32)) y32.2 ((2 : Int32)) p1) fun y33 =>
  bnd (FX7_gather G y33.1 a p0 ((0 : Int32)) y33.2 ((3 : Int32)) p1) fun y34 =>
  bnd (FX7_gather G y34.1 a p0 ((9 : Int32)) ((0 : Int32)) ((2 : Int32)) p1) fun y35 =>
  bnd (FX7_gather G y35.1 a p0 ((9 : Int32)) y35.2 ((1 : Int32)) p1) fun y36 =>
  bnd (FX7_gather G y36.1 a p0 ((9 : Int32)) y36.2 ((3 : Int32)) p1) fun y37 =>
  bnd (FX7_tellApart G y37.1 ((M.2 b2 3)) y37.2) fun y38 =>
  some (y37.2, y38)) else
  (some (y4.1, y4.2))) fun (y30 : Int32 × DD) =>
  some (y30.1, y30.2))) fun (y9 : Int32 × DD) =>
  bnd (itr (fun (s11 : Int32 × DD) => ((if ((9 : Int32)) ≤ s11.1 then (some (.inr (s11.1, s11.2))) else
  (chk (¬ (((9 : Int32)) < 0 ∨ G.2.2 b7 ≤ ((9 : Int32)).toNatClampNeg)) <|
  ltt (s11.2.1 b7 ((9 : Int32)).toNatClampNeg) fun x15 =>
  bnd (if x15 ≤ s11.1 then (some (none)) else
  (dr G 14 ((M.2 b2 3)) fun b27 =>
  chk (¬ (s11.1 < 0 ∨ G.2.2 b27 ≤ s11.1.toNatClampNeg)) <|
  some ((s11.2.2 b27 s11.1.toNatClampNeg)))) fun (y16 : Option Nat) =>
  dr G 14 ((M.2 b2 3)) fun b17 =>
  chk (¬ (s11.1 < 0 ∨ G.2.2 b17 ≤ s11.1.toNatClampNeg)) <|
  chk (okr G 4 y16 = true) <|
  ltt (uP s11.2 b17 s11.1.toNatClampNeg y16) fun M18 =>
  ltt ((((9 : Int32)) + s11.1)) fun x19 =>
  chk (¬ (((10 : Int32)) < 0 ∨ G.2.2 b7 ≤ ((10 : Int32)).toNatClampNeg)) <|
  ltt (M18.1 b7 ((10 : Int32)).toNatClampNeg) fun x20 =>
  bnd (if x20 ≤ s11.1 then (some (none)) else
  (ltt ((((9 : Int32)) + s11.1)) fun x25 =>
  chk (¬ (x25 < 0 ∨ G.2.2 b17 ≤ x25.toNatClampNeg)) <|
  some ((M18.2 b17 x25.toNatClampNeg)))) fun (y21 : Option Nat) =>
  chk (¬ (x19 < 0 ∨ G.2.2 b17 ≤ x19.toNatClampNeg)) <|
  chk (okr G 4 y21 = true) <|
  ltt (uP M18 b17 x19.toNatClampNeg y21) fun M22 =>
  ltt (s11.1 + (1 : Int32)) fun x23 =>
  some (.inl (x23, M22)))) : Option ((Int32 × DD) ⊕ (Int32 × DD)))) 1000000 ((0 : Int32), y9.2)) fun (y10 : Int32 × DD) =>
  some y10.2
set_option maxHeartbeats 4000000 in
set_option maxRecDepth 100000 in
theorem kX7_makeLists (l : Launch) (D : va_G) (ct : CT) (ad : Nat → Nat) (Z : Nat → Nat) (G : GG) (M : DD) (sz : Nat) (a : Nat) (p0 : Option Nat) (p1 : Int32) (y : DD) (hc : a < G.1) (hk : G.2.1 a = 7) (hF : FX7_makeLists G M a p0 p1 = some y) : Met l yX7_makeLists wuX7_makeLists ({ frames := 3, cells := 0, slots := 0, locals := 80 }) (va_Pc [.ref (ad a), va_re ad p0, .int p1] (kB D ct ad Z G M sz)) (va_Qv (fun (_ : Unit) => True) (fun _ t => kE D ct ad G (wA ad G sz) y t) (wA ad G sz)) 0 0 (wA ad G sz) := by
  refine Met.ofW (cc := cX7_makeLists) (maxL := 6) (ret := none) (by decide) rfl ?_
  intro p e s m args below meth c s₁ B hml hv
  obtain ⟨rfl, hsz, hP, hK, hD0, hZ, hN⟩ := hv
  have hx := B.exec
  have hb := B.bytes
  have hr := B.returns
  have hts := atoms_spec (ws := wuX7_makeLists) B.pre
  have hown : s.vm.findClass RX7 = some m.cls := findClass_of_methodNamed B.named
  have hlocks := B.notSynchronized
  subst hsz
  have hD := wD_self (sz := s.heap.size) hD0
  have hA9 : ∀ q, s.heap.size ≤ q → wA ad G s.heap.size q := fun q h => Or.inr h
  generalize hAe : wA ad G s.heap.size = A at hD hA9 hZ ⊢
  have hS : va_S A s.heap s.heap [] := va_S.rf
  have hl := lv_entry ([.ref (ad a), va_re ad p0, .int p1]) (n := 6) (by cases p0 <;> exact Nat.le_of_ble_eq_true rfl)
  rw [lg_entry_eq]
  generalize (lg_sl ([.ref (ad a), va_re ad p0, .int p1]) ++ List.replicate (6 - (lg_sl ([.ref (ad a), va_re ad p0, .int p1])).length) Slot.unset).toArray = ls at hl ⊢
  have hl : lv_has ls 6 [(0, .ref (ad a)), (1, va_re ad p0), (2, .int p1)] := by have e9 : lv_args 0 [.ref (ad a), va_re ad p0, .int p1] = [(0, .ref (ad a)), (1, va_re ad p0), (2, .int p1)] := (by cases p0 <;> rfl); rw [e9] at hl; exact hl
  unfold FX7_makeLists at hF
  refine lv_aloadq_n hx hb dX7_makeLists_0 rfl (lv_at hl 1 rfl) ?_
  obtain ⟨b2, ho2, hc2, hk2, hF⟩ := dr_some hF
  refine W_st (st' := [.ref (ad b2)]) (by rw [va_some ho2]) ?_
  refine va_get (D := D) (ci := 9) (v := va_re ad (M.2 b2 1)) (C := RX9) (T := TX9) (N := 20) hx hb hts (mus hf_X9) hown hK hP b2 (wld_o ct ad G M hc2 hk2 (by decide)) rfl 1 (by decide) (hts (.fieldLink RX7 95 "VideoSuite$Work" "head" "LVideoSuite$Header;") (mu mw_426)) (fun _ h9 => h9) rfl dX7_makeLists_1 ?_
  obtain ⟨b3, ho3, hc3, hk3, hF⟩ := dr_some hF
  refine W_st (st' := [.ref (ad b3)]) (by rw [va_some ho3]) ?_
  refine va_get (D := D) (ci := 3) (v := va_re ad (M.2 b3 0)) (C := RX3) (T := TX3) (N := 4) hx hb hts (mus hf_X3) hown hK hP b3 (wld_o ct ad G M hc3 hk3 (by decide)) rfl 0 (by decide) (hts (.fieldLink RX7 73 "VideoSuite$Header" "v" "[I") (mu mw_616)) (fun _ h9 => h9) rfl dX7_makeLists_4 ?_
  refine lv_astoreq_n (lv' := [(3, va_re ad (M.2 b3 0)), (0, .ref (ad a)), (1, va_re ad p0), (2, .int p1)]) hx hb dX7_makeLists_7 rfl hl (by decide) rfl (fun ls hl => ?_)
  refine lv_aloadq_n hx hb dX7_makeLists_8 rfl (lv_at hl 2 rfl) ?_
  refine W_st (st' := [.ref (ad b2)]) (by rw [va_some ho2]) ?_
  refine va_get (D := D) (ci := 9) (v := va_re ad (M.2 b2 3)) (C := RX9) (T := TX9) (N := 20) hx hb hts (mus hf_X9) hown hK hP b2 (wld_o ct ad G M hc2 hk2 (by decide)) rfl 3 (by decide) (hts (.fieldLink RX7 101 "VideoSuite$Work" "lists" "[LVideoSuite$Picture;") (mu mw_437)) (fun _ h9 => h9) rfl dX7_makeLists_9 ?_
  refine lv_astoreq (lv' := [(4, va_re ad (M.2 b2 3)), (3, va_re ad (M.2 b3 0)), (0, .ref (ad a)), (1, va_re ad p0), (2, .int p1)]) hx hb dX7_makeLists_12 hl (by decide) (by generalize ((M.2 b3 0)) = o9; cases o9 <;> rfl) (fun ls hl => ?_)
  refine lv_iconst (v := (0 : Int32)) hx hb dX7_makeLists_14 (by decide) ?_
  refine lv_istore (lv' := [(5, .int (0 : Int32)), (4, va_re ad (M.2 b2 3)), (3, va_re ad (M.2 b3 0)), (0, .ref (ad a)), (1, va_re ad p0), (2, .int p1)]) hx hb dX7_makeLists_15 hl (by decide) (by generalize ((M.2 b2 3)) = o9; cases o9 <;> rfl) (fun ls hl => ?_)
  obtain ⟨y4, hy4, hF⟩ := bnd_some hF
  have K4 : ∀ (H : Heap) (locs : List Loc) (ls : Array Slot), va_P D classes (wld ct ad G y4.2) H → va_D A (wld ct ad G y4.2) → va_S A s.heap H locs → lv_has ls 6 [(5, .int y4.1), (4, va_re ad (M.2 b2 3)), (3, va_re ad (M.2 b3 0)), (0, .ref (ad a)), (1, va_re ad p0), (2, .int p1)] → W p l e (headSpec wuX7_makeLists ({ frames := 3, cells := 0, slots := 0, locals := 80 })).room s m ([.ref (ad a), va_re ad p0, .int p1] : List Value).toArray below meth c H locs 0 0 (MQ below (va_Qv (fun (_ : Unit) => True) (fun _ t => kE D ct ad G A y t) A) ([.ref (ad a), va_re ad p0, .int p1] : List Value).toArray s 0 0 A) (F0 m 37 ls []) := by
    intro H locs ls hP hD hS hl
    refine lv_aloadq_n hx hb dX7_makeLists_37 rfl (lv_at hl 2 rfl) ?_
    refine lv_iconst (v := (1 : Int32)) hx hb dX7_makeLists_38 (by decide) ?_
    obtain ⟨b7, ho7, hc7, hk7, hF⟩ := dr_some hF
    refine W_st (st' := [.int (1 : Int32), .ref (ad b7)]) (by rw [va_some ho7]) ?_
    obtain ⟨hvc, hF⟩ := chk_some hF
    refine va_iald hx hb hK hP b7 1 (wld_i ct ad G y4.2 hc7 hk7) rfl hvc dX7_makeLists_39 ?_
    obtain ⟨x8, ex8, hF⟩ := ltt_some hF
    refine lv_topi (fun zx8 ezx8 => ?_)
    obtain rfl : x8 = zx8 := ex8.trans ezx8.symm
    obtain ⟨y9, hy9, hF⟩ := bnd_some hF
    have J9 : ∀ (H : Heap) (locs : List Loc) (ls : Array Slot), va_P D classes (wld ct ad G y9.2) H → va_D A (wld ct ad G y9.2) → va_S A s.heap H locs → lv_has ls 6 [(5, .int y9.1), (4, va_re ad (M.2 b2 3)), (3, va_re ad (M.2 b3 0)), (0, .ref (ad a)), (1, va_re ad p0), (2, .int p1)] → W p l e (headSpec wuX7_makeLists ({ frames := 3, cells := 0, slots := 0, locals := 80 })).room s m ([.ref (ad a), va_re ad p0, .int p1] : List Value).toArray below meth c H locs 0 0 (MQ below (va_Qv (fun (_ : Unit) => True) (fun _ t => kE D ct ad G A y t) A) ([.ref (ad a), va_re ad p0, .int p1] : List Value).toArray s 0 0 A) (F0 m 154 ls []) := by
      intro H locs ls hP hD hS hl
      refine lv_iconst (v := (0 : Int32)) hx hb dX7_makeLists_154 (by decide) ?_
      refine lv_istore (lv' := [(5, .int (0 : Int32)), (4, va_re ad (M.2 b2 3)), (3, va_re ad (M.2 b3 0)), (0, .ref (ad a)), (1, va_re ad p0), (2, .int p1)]) hx hb dX7_makeLists_155 hl (by decide) (by generalize ((M.2 b2 3)) = o9; cases o9 <;> rfl) (fun ls hl => ?_)
      obtain ⟨y10, hy10, hF⟩ := bnd_some hF
      have K10 : ∀ (H : Heap) (locs : List Loc) (ls : Array Slot), va_P D classes (wld ct ad G y10.2) H → va_D A (wld ct ad G y10.2) → va_S A s.heap H locs → lv_has ls 6 [(5, .int y10.1), (4, va_re ad (M.2 b2 3)), (3, va_re ad (M.2 b3 0)), (0, .ref (ad a)), (1, va_re ad p0), (2, .int p1)] → W p l e (headSpec wuX7_makeLists ({ frames := 3, cells := 0, slots := 0, locals := 80 })).room s m ([.ref (ad a), va_re ad p0, .int p1] : List Value).toArray below meth c H locs 0 0 (MQ below (va_Qv (fun (_ : Unit) => True) (fun _ t => kE D ct ad G A y t) A) ([.ref (ad a), va_re ad p0, .int p1] : List Value).toArray s 0 0 A) (F0 m 222 ls []) := by
        intro H locs ls hP hD hS hl
        obtain rfl := Option.some.inj hF
        exact W.vret hx hb hr (fun t ht hW => ⟨⟨(), rfl, trivial, ⟨by rw [ht]; exact hP, va_K.moved hW.alike hK, hD⟩⟩, hS.F ht⟩) hS.2.2 dX7_makeLists_222
      clear hF
      refine itr_rule (fun (s11 : Int32 × DD) => ∀ (H : Heap) (locs : List Loc) (ls : Array Slot), va_P D classes (wld ct ad G s11.2) H → va_D A (wld ct ad G s11.2) → va_S A s.heap H locs → lv_has ls 6 [(5, .int s11.1), (4, va_re ad (M.2 b2 3)), (3, va_re ad (M.2 b3 0)), (0, .ref (ad a)), (1, va_re ad p0), (2, .int p1)] → W p l e (headSpec wuX7_makeLists ({ frames := 3, cells := 0, slots := 0, locals := 80 })).room s m ([.ref (ad a), va_re ad p0, .int p1] : List Value).toArray below meth c H locs 0 0 (MQ below (va_Qv (fun (_ : Unit) => True) (fun _ t => kE D ct ad G A y t) A) ([.ref (ad a), va_re ad p0, .int p1] : List Value).toArray s 0 0 A) (F0 m 157 ls [])) ?_ _ _ hy10 _ _ _ hP hD hS (lv_sub hl [0, 1, 2, 3, 4, 5] rfl)
      rintro s11 ⟨z13, hF, hwz13⟩ H locs ls hP hD hS hl
      try dsimp only at hF
      refine lv_iload hx hb dX7_makeLists_157 (lv_at hl 0 rfl) ?_
      refine lv_bipush (v := (9 : Int32)) hx hb dX7_makeLists_159 (by decide) ?_
      refine lv_icmp_ge (tgt := 222) hx hb dX7_makeLists_161 (by decide) (fun c14 => ?_) (fun c14 => ?_)
      · rw [if_pos c14] at hF
        obtain rfl := Option.some.inj hF
        subst hwz13
        exact K10 _ _ _ hP hD hS (lv_sub hl [0, 1, 2, 3, 4, 5] rfl)
      · rw [if_neg c14] at hF
        refine lv_aloadq hx hb dX7_makeLists_164 (lv_at hl 1 rfl) ?_
        refine lv_iload hx hb dX7_makeLists_166 (lv_at hl 0 rfl) ?_
        refine lv_iload hx hb dX7_makeLists_168 (lv_at hl 0 rfl) ?_
        refine lv_aloadq_n hx hb dX7_makeLists_170 rfl (lv_at hl 2 rfl) ?_
        refine lv_bipush (v := (9 : Int32)) hx hb dX7_makeLists_171 (by decide) ?_
        refine W_st (st' := [.int (9 : Int32), .ref (ad b7), .int s11.1, .int s11.1, va_re ad (M.2 b2 3)]) (by rw [va_some ho7]) ?_
        obtain ⟨hvc, hF⟩ := chk_some hF
        refine va_iald hx hb hK hP b7 1 (wld_i ct ad G s11.2 hc7 hk7) rfl hvc dX7_makeLists_173 ?_
        obtain ⟨x15, ex15, hF⟩ := ltt_some hF
        refine lv_topi (fun zx15 ezx15 => ?_)
        obtain rfl : x15 = zx15 := ex15.trans ezx15.symm
        obtain ⟨y16, hy16, hF⟩ := bnd_some hF
        have J16 : ∀ (H : Heap) (locs : List Loc) (ls : Array Slot), va_P D classes (wld ct ad G s11.2) H → va_D A (wld ct ad G s11.2) → va_S A s.heap H locs → lv_has ls 6 [(5, .int s11.1), (4, va_re ad (M.2 b2 3)), (3, va_re ad (M.2 b3 0)), (0, .ref (ad a)), (1, va_re ad p0), (2, .int p1)] → W p l e (headSpec wuX7_makeLists ({ frames := 3, cells := 0, slots := 0, locals := 80 })).room s m ([.ref (ad a), va_re ad p0, .int p1] : List Value).toArray below meth c H locs 0 0 (MQ below (va_Qv (fun (_ : Unit) => True) (fun _ t => kE D ct ad G A y t) A) ([.ref (ad a), va_re ad p0, .int p1] : List Value).toArray s 0 0 A) (F0 m 186 ls [va_re ad y16, .int s11.1, va_re ad (M.2 b2 3)]) := by
          intro H locs ls hP hD hS hl
          obtain ⟨b17, ho17, hc17, hk17, hF⟩ := dr_some hF
          refine W_st (st' := [va_re ad y16, .int s11.1, .ref (ad b17)]) (by rw [va_some ho17]) ?_
          obtain ⟨hvc, hF⟩ := chk_some hF
          obtain ⟨ho9, hF⟩ := chk_some hF
          refine st_q (o := y16) hx hb hK hP hD hS hc17 hk17 ho9 hvc dX7_makeLists_186 (fun H locs hP hD hS => ?_)
          obtain ⟨M18, eM18, hF⟩ := ltt_some hF
          rw [← eM18] at hP hD
          refine lv_aloadq hx hb dX7_makeLists_187 (lv_at hl 1 rfl) ?_
          refine lv_bipush (v := (9 : Int32)) hx hb dX7_makeLists_189 (by decide) ?_
          refine lv_iload hx hb dX7_makeLists_191 (lv_at hl 0 rfl) ?_
          refine lv_iadd hx hb dX7_makeLists_193 ?_
          obtain ⟨x19, ex19, hF⟩ := ltt_some hF
          refine lv_topi (fun zx19 ezx19 => ?_)
          obtain rfl : x19 = zx19 := ex19.trans ezx19.symm
          refine lv_iload hx hb dX7_makeLists_194 (lv_at hl 0 rfl) ?_
          refine lv_aloadq_n hx hb dX7_makeLists_196 rfl (lv_at hl 2 rfl) ?_
          refine lv_bipush (v := (10 : Int32)) hx hb dX7_makeLists_197 (by decide) ?_
          refine W_st (st' := [.int (10 : Int32), .ref (ad b7), .int s11.1, .int x19, va_re ad (M.2 b2 3)]) (by rw [va_some ho7]) ?_
          obtain ⟨hvc, hF⟩ := chk_some hF
          refine va_iald hx hb hK hP b7 1 (wld_i ct ad G M18 hc7 hk7) rfl hvc dX7_makeLists_199 ?_
          obtain ⟨x20, ex20, hF⟩ := ltt_some hF
          refine lv_topi (fun zx20 ezx20 => ?_)
          obtain rfl : x20 = zx20 := ex20.trans ezx20.symm
          obtain ⟨y21, hy21, hF⟩ := bnd_some hF
          have J21 : ∀ (H : Heap) (locs : List Loc) (ls : Array Slot), va_P D classes (wld ct ad G M18) H → va_D A (wld ct ad G M18) → va_S A s.heap H locs → lv_has ls 6 [(5, .int s11.1), (4, va_re ad (M.2 b2 3)), (3, va_re ad (M.2 b3 0)), (0, .ref (ad a)), (1, va_re ad p0), (2, .int p1)] → W p l e (headSpec wuX7_makeLists ({ frames := 3, cells := 0, slots := 0, locals := 80 })).room s m ([.ref (ad a), va_re ad p0, .int p1] : List Value).toArray below meth c H locs 0 0 (MQ below (va_Qv (fun (_ : Unit) => True) (fun _ t => kE D ct ad G A y t) A) ([.ref (ad a), va_re ad p0, .int p1] : List Value).toArray s 0 0 A) (F0 m 215 ls [va_re ad y21, .int x19, va_re ad (M.2 b2 3)]) := by
            intro H locs ls hP hD hS hl
            refine W_st (st' := [va_re ad y21, .int x19, .ref (ad b17)]) (by rw [va_some ho17]) ?_
            obtain ⟨hvc, hF⟩ := chk_some hF
            obtain ⟨ho9, hF⟩ := chk_some hF
            refine st_q (o := y21) hx hb hK hP hD hS hc17 hk17 ho9 hvc dX7_makeLists_215 (fun H locs hP hD hS => ?_)
            obtain ⟨M22, eM22, hF⟩ := ltt_some hF
            rw [← eM22] at hP hD
            obtain ⟨x23, ex23, hF⟩ := ltt_some hF
            refine lv_iinc (v := x23) (lv' := [(5, .int x23), (4, va_re ad (M.2 b2 3)), (3, va_re ad (M.2 b3 0)), (0, .ref (ad a)), (1, va_re ad p0), (2, .int p1)]) hx hb dX7_makeLists_216 hl (k := 0) rfl (by rw [ex23]; rfl) (by decide) (by generalize ((M.2 b2 3)) = o9; cases o9 <;> rfl) (fun ls hl => ?_)
            refine lv_goto (tgt := 157) hx hb dX7_makeLists_219 (by decide) ?_
            obtain rfl := Option.some.inj hF
            exact hwz13 _ _ _ hP hD hS (lv_sub hl [0, 1, 2, 3, 4, 5] rfl)
          clear hF
          have hF := hy21
          clear hy21
          refine lv_icmp_ge (tgt := 214) hx hb dX7_makeLists_200 (by decide) (fun c24 => ?_) (fun c24 => ?_)
          · rw [if_pos c24] at hF
            refine lv_nullq (ad := ad) hx hb dX7_makeLists_214 ?_
            obtain rfl := Option.some.inj hF
            exact J21 _ _ _ hP hD hS (lv_sub hl [0, 1, 2, 3, 4, 5] rfl)
          · rw [if_neg c24] at hF
            refine lv_aloadq hx hb dX7_makeLists_203 (lv_at hl 1 rfl) ?_
            refine lv_bipush (v := (9 : Int32)) hx hb dX7_makeLists_205 (by decide) ?_
            refine lv_iload hx hb dX7_makeLists_207 (lv_at hl 0 rfl) ?_
            refine lv_iadd hx hb dX7_makeLists_209 ?_
            obtain ⟨x25, ex25, hF⟩ := ltt_some hF
            refine lv_topi (fun zx25 ezx25 => ?_)
            obtain rfl : x25 = zx25 := ex25.trans ezx25.symm
            refine W_st (st' := [.int x25, .ref (ad b17), .int x19, .ref (ad b17)]) (by rw [va_some ho17]) ?_
            obtain ⟨hvc, hF⟩ := chk_some hF
            refine ld_q hx hb hK hP hc17 hk17 hvc dX7_makeLists_210 ?_
            refine lv_goto (tgt := 215) hx hb dX7_makeLists_211 (by decide) ?_
            obtain rfl := Option.some.inj hF
            refine W_st (st' := [va_re ad (M18.2 b17 x25.toNatClampNeg), .int x19, va_re ad (M.2 b2 3)]) (by rw [va_some ho17]) ?_
            exact J21 _ _ _ hP hD hS (lv_sub hl [0, 1, 2, 3, 4, 5] rfl)
        clear hF
        have hF := hy16
        clear hy16
        refine lv_icmp_ge (tgt := 185) hx hb dX7_makeLists_174 (by decide) (fun c26 => ?_) (fun c26 => ?_)
        · rw [if_pos c26] at hF
          refine lv_nullq (ad := ad) hx hb dX7_makeLists_185 ?_
          obtain rfl := Option.some.inj hF
          exact J16 _ _ _ hP hD hS (lv_sub hl [0, 1, 2, 3, 4, 5] rfl)
        · rw [if_neg c26] at hF
          refine lv_aloadq hx hb dX7_makeLists_177 (lv_at hl 1 rfl) ?_
          refine lv_iload hx hb dX7_makeLists_179 (lv_at hl 0 rfl) ?_
          obtain ⟨b27, ho27, hc27, hk27, hF⟩ := dr_some hF
          refine W_st (st' := [.int s11.1, .ref (ad b27), .int s11.1, .ref (ad b27)]) (by rw [va_some ho27]) ?_
          obtain ⟨hvc, hF⟩ := chk_some hF
          refine ld_q hx hb hK hP hc27 hk27 hvc dX7_makeLists_181 ?_
          refine lv_goto (tgt := 186) hx hb dX7_makeLists_182 (by decide) ?_
          obtain rfl := Option.some.inj hF
          refine W_st (st' := [va_re ad (s11.2.2 b27 s11.1.toNatClampNeg), .int s11.1, va_re ad (M.2 b2 3)]) (by rw [va_some ho27]) ?_
          exact J16 _ _ _ hP hD hS (lv_sub hl [0, 1, 2, 3, 4, 5] rfl)
    clear hF
    have hF := hy9
    clear hy9
    refine lv_if_ne (tgt := 68) hx hb dX7_makeLists_40 (by decide) (fun c28 => ?_) (fun c28 => ?_)
    · rw [if_neg c28] at hF
      refine lv_aloadq_n hx hb dX7_makeLists_68 rfl (lv_at hl 2 rfl) ?_
      refine lv_iconst (v := (1 : Int32)) hx hb dX7_makeLists_69 (by decide) ?_
      refine W_st (st' := [.int (1 : Int32), .ref (ad b7)]) (by rw [va_some ho7]) ?_
      obtain ⟨hvc, hF⟩ := chk_some hF
      refine va_iald hx hb hK hP b7 1 (wld_i ct ad G y4.2 hc7 hk7) rfl hvc dX7_makeLists_70 ?_
      obtain ⟨x29, ex29, hF⟩ := ltt_some hF
      refine lv_topi (fun zx29 ezx29 => ?_)
      obtain rfl : x29 = zx29 := ex29.trans ezx29.symm
      refine lv_iconst (v := (1 : Int32)) hx hb dX7_makeLists_71 (by decide) ?_
      obtain ⟨y30, hy30, hF⟩ := bnd_some hF
      have J30 : ∀ (H : Heap) (locs : List Loc) (ls : Array Slot), va_P D classes (wld ct ad G y30.2) H → va_D A (wld ct ad G y30.2) → va_S A s.heap H locs → lv_has ls 6 [(5, .int y30.1), (4, va_re ad (M.2 b2 3)), (3, va_re ad (M.2 b3 0)), (0, .ref (ad a)), (1, va_re ad p0), (2, .int p1)] → W p l e (headSpec wuX7_makeLists ({ frames := 3, cells := 0, slots := 0, locals := 80 })).room s m ([.ref (ad a), va_re ad p0, .int p1] : List Value).toArray below meth c H locs 0 0 (MQ below (va_Qv (fun (_ : Unit) => True) (fun _ t => kE D ct ad G A y t) A) ([.ref (ad a), va_re ad p0, .int p1] : List Value).toArray s 0 0 A) (F0 m 154 ls []) := by
        intro H locs ls hP hD hS hl
        obtain rfl := Option.some.inj hF
        exact J9 _ _ _ hP hD hS (lv_sub hl [0, 1, 2, 3, 4, 5] rfl)
      clear hF
      have hF := hy30
      clear hy30
      refine lv_icmp_ne (tgt := 154) hx hb dX7_makeLists_72 (by decide) (fun c31 => ?_) (fun c31 => ?_)
      · rw [if_neg c31] at hF
        obtain rfl := Option.some.inj hF
        exact J30 _ _ _ hP hD hS (lv_sub hl [0, 1, 2, 3, 4, 5] rfl)
      · rw [if_pos c31] at hF
        refine lv_aload_n hx hb dX7_makeLists_75 rfl (lv_at hl 3 rfl) ?_
        refine lv_aloadq_n hx hb dX7_makeLists_76 rfl (lv_at hl 4 rfl) ?_
        refine lv_iconst (v := (0 : Int32)) hx hb dX7_makeLists_77 (by decide) ?_
        refine lv_iconst (v := (0 : Int32)) hx hb dX7_makeLists_78 (by decide) ?_
        refine lv_iconst (v := (1 : Int32)) hx hb dX7_makeLists_79 (by decide) ?_
        refine lv_iload_n hx hb dX7_makeLists_80 rfl (lv_at hl 5 rfl) ?_
        obtain ⟨y32, hy32, hF⟩ := bnd_some hF
        have hf9 := wA_in hD hA9 hS
        refine va_calli (va_runV (As := [va_re ad p0, .int (0 : Int32), .int (0 : Int32), .int (1 : Int32), .int p1]) (rest := []) ⟨hx, hb, hml, hown, hts⟩ (kX7_gather l D ct ad Z G y4.2 H.size a p0 ((0 : Int32)) ((0 : Int32)) ((1 : Int32)) p1 y32 hc hk hy32) (cwV 5 hts gX7_makeLists_X7_gather rfl rfl rfl (by decide +kernel) ⟨Nat.le_of_ble_eq_true rfl, Nat.le_of_ble_eq_true rfl⟩) ⟨fun a U g mk q => by obtain ⟨q0, q1, qP, qK, qD, qZ, qN⟩ := q; exact ⟨q0, q1, qP, va_K.moved (u := U) (U := U.calling g mk a) (Vm.Alike.refl U.vm) qK, qD, sF.moved (u := U) (U := U.calling g mk a) (Vm.Alike.refl U.vm) qZ, nF.same rfl qN⟩, va_recv hK hP (ci := 7) (q0 := a) rfl (wld_o ct ad G y4.2 hc hk (by decide)), fun U hU hW => ⟨rfl, by rw [hU], by rw [hU]; exact hP, va_K.moved hW.alike hK, hD.weaken (fun _ _ _ _ => trivial), by rw [hU]; exact ((hZ.kept hS.2.1).narrow hf9).moved hW.alike, hN.warm hW⟩⟩ rfl rfl hl.1 rfl (lv_room (Nat.le_of_ble_eq_true rfl)) dX7_makeLists_81 ⟨(Nat.zero_le _), (Nat.zero_le _)⟩) hS (fun q _ h => hf9 q h) hf9 (fun r u t H locs ht hvm hw hB hz1 hk1 hS => ?_)
        obtain ⟨hP, hK9, hD9⟩ := hB
        rw [ht] at hP
        try dsimp only at hw
        subst hw
        have hD := hD9.weaken (fun _ q _ h => hf9 q.1 h)
        refine lv_istore (lv' := [(5, .int y32.2), (4, va_re ad (M.2 b2 3)), (3, va_re ad (M.2 b3 0)), (0, .ref (ad a)), (1, va_re ad p0), (2, .int p1)]) hx hb dX7_makeLists_84 hl (by decide) (by generalize ((M.2 b2 3)) = o9; cases o9 <;> rfl) (fun ls hl => ?_)
        refine lv_aload_n hx hb dX7_makeLists_86 rfl (lv_at hl 3 rfl) ?_
        refine lv_aloadq_n hx hb dX7_makeLists_87 rfl (lv_at hl 4 rfl) ?_
        refine lv_iconst (v := (0 : Int32)) hx hb dX7_makeLists_88 (by decide) ?_
        refine lv_iload hx hb dX7_makeLists_89 (lv_at hl 0 rfl) ?_
        refine lv_iconst (v := (2 : Int32)) hx hb dX7_makeLists_91 (by decide) ?_
        refine lv_iload_n hx hb dX7_makeLists_92 rfl (lv_at hl 5 rfl) ?_
        obtain ⟨y33, hy33, hF⟩ := bnd_some hF
        have hf9 := wA_in hD hA9 hS
        refine va_calli (va_runV (As := [va_re ad p0, .int (0 : Int32), .int y32.2, .int (2 : Int32), .int p1]) (rest := []) ⟨hx, hb, hml, hown, hts⟩ (kX7_gather l D ct ad Z G y32.1 H.size a p0 ((0 : Int32)) y32.2 ((2 : Int32)) p1 y33 hc hk hy33) (cwV 5 hts gX7_makeLists_X7_gather rfl rfl rfl (by decide +kernel) ⟨Nat.le_of_ble_eq_true rfl, Nat.le_of_ble_eq_true rfl⟩) ⟨fun a U g mk q => by obtain ⟨q0, q1, qP, qK, qD, qZ, qN⟩ := q; exact ⟨q0, q1, qP, va_K.moved (u := U) (U := U.calling g mk a) (Vm.Alike.refl U.vm) qK, qD, sF.moved (u := U) (U := U.calling g mk a) (Vm.Alike.refl U.vm) qZ, nF.same rfl qN⟩, va_recv hK hP (ci := 7) (q0 := a) rfl (wld_o ct ad G y32.1 hc hk (by decide)), fun U hU hW => ⟨rfl, by rw [hU], by rw [hU]; exact hP, va_K.moved hW.alike hK, hD.weaken (fun _ _ _ _ => trivial), by rw [hU]; exact ((hZ.kept hS.2.1).narrow hf9).moved hW.alike, hN.warm hW⟩⟩ rfl rfl hl.1 rfl (lv_room (Nat.le_of_ble_eq_true rfl)) dX7_makeLists_93 ⟨(Nat.zero_le _), (Nat.zero_le _)⟩) hS (fun q _ h => hf9 q h) hf9 (fun r u t H locs ht hvm hw hB hz1 hk1 hS => ?_)
        obtain ⟨hP, hK9, hD9⟩ := hB
        rw [ht] at hP
        try dsimp only at hw
        subst hw
        have hD := hD9.weaken (fun _ q _ h => hf9 q.1 h)
        refine lv_istore (lv' := [(5, .int y33.2), (4, va_re ad (M.2 b2 3)), (3, va_re ad (M.2 b3 0)), (0, .ref (ad a)), (1, va_re ad p0), (2, .int p1)]) hx hb dX7_makeLists_96 hl (by decide) (by generalize ((M.2 b2 3)) = o9; cases o9 <;> rfl) (fun ls hl => ?_)
        refine lv_aload_n hx hb dX7_makeLists_98 rfl (lv_at hl 3 rfl) ?_
        refine lv_aloadq_n hx hb dX7_makeLists_99 rfl (lv_at hl 4 rfl) ?_
        refine lv_iconst (v := (0 : Int32)) hx hb dX7_makeLists_100 (by decide) ?_
        refine lv_iload hx hb dX7_makeLists_101 (lv_at hl 0 rfl) ?_
        refine lv_iconst (v := (3 : Int32)) hx hb dX7_makeLists_103 (by decide) ?_
        refine lv_iload_n hx hb dX7_makeLists_104 rfl (lv_at hl 5 rfl) ?_
        obtain ⟨y34, hy34, hF⟩ := bnd_some hF
        have hf9 := wA_in hD hA9 hS
        refine va_calli (va_runV (As := [va_re ad p0, .int (0 : Int32), .int y33.2, .int (3 : Int32), .int p1]) (rest := []) ⟨hx, hb, hml, hown, hts⟩ (kX7_gather l D ct ad Z G y33.1 H.size a p0 ((0 : Int32)) y33.2 ((3 : Int32)) p1 y34 hc hk hy34) (cwV 5 hts gX7_makeLists_X7_gather rfl rfl rfl (by decide +kernel) ⟨Nat.le_of_ble_eq_true rfl, Nat.le_of_ble_eq_true rfl⟩) ⟨fun a U g mk q => by obtain ⟨q0, q1, qP, qK, qD, qZ, qN⟩ := q; exact ⟨q0, q1, qP, va_K.moved (u := U) (U := U.calling g mk a) (Vm.Alike.refl U.vm) qK, qD, sF.moved (u := U) (U := U.calling g mk a) (Vm.Alike.refl U.vm) qZ, nF.same rfl qN⟩, va_recv hK hP (ci := 7) (q0 := a) rfl (wld_o ct ad G y33.1 hc hk (by decide)), fun U hU hW => ⟨rfl, by rw [hU], by rw [hU]; exact hP, va_K.moved hW.alike hK, hD.weaken (fun _ _ _ _ => trivial), by rw [hU]; exact ((hZ.kept hS.2.1).narrow hf9).moved hW.alike, hN.warm hW⟩⟩ rfl rfl hl.1 rfl (lv_room (Nat.le_of_ble_eq_true rfl)) dX7_makeLists_105 ⟨(Nat.zero_le _), (Nat.zero_le _)⟩) hS (fun q _ h => hf9 q h) hf9 (fun r u t H locs ht hvm hw hB hz1 hk1 hS => ?_)
        obtain ⟨hP, hK9, hD9⟩ := hB
        rw [ht] at hP
        try dsimp only at hw
        subst hw
        have hD := hD9.weaken (fun _ q _ h => hf9 q.1 h)
        refine lv_pop hx hb dX7_makeLists_108 rfl ?_
        refine lv_aload_n hx hb dX7_makeLists_109 rfl (lv_at hl 3 rfl) ?_
        refine lv_aloadq_n hx hb dX7_makeLists_110 rfl (lv_at hl 4 rfl) ?_
        refine lv_bipush (v := (9 : Int32)) hx hb dX7_makeLists_111 (by decide) ?_
        refine lv_iconst (v := (0 : Int32)) hx hb dX7_makeLists_113 (by decide) ?_
        refine lv_iconst (v := (2 : Int32)) hx hb dX7_makeLists_114 (by decide) ?_
        refine lv_iload_n hx hb dX7_makeLists_115 rfl (lv_at hl 5 rfl) ?_
        obtain ⟨y35, hy35, hF⟩ := bnd_some hF
        have hf9 := wA_in hD hA9 hS
        refine va_calli (va_runV (As := [va_re ad p0, .int (9 : Int32), .int (0 : Int32), .int (2 : Int32), .int p1]) (rest := []) ⟨hx, hb, hml, hown, hts⟩ (kX7_gather l D ct ad Z G y34.1 H.size a p0 ((9 : Int32)) ((0 : Int32)) ((2 : Int32)) p1 y35 hc hk hy35) (cwV 5 hts gX7_makeLists_X7_gather rfl rfl rfl (by decide +kernel) ⟨Nat.le_of_ble_eq_true rfl, Nat.le_of_ble_eq_true rfl⟩) ⟨fun a U g mk q => by obtain ⟨q0, q1, qP, qK, qD, qZ, qN⟩ := q; exact ⟨q0, q1, qP, va_K.moved (u := U) (U := U.calling g mk a) (Vm.Alike.refl U.vm) qK, qD, sF.moved (u := U) (U := U.calling g mk a) (Vm.Alike.refl U.vm) qZ, nF.same rfl qN⟩, va_recv hK hP (ci := 7) (q0 := a) rfl (wld_o ct ad G y34.1 hc hk (by decide)), fun U hU hW => ⟨rfl, by rw [hU], by rw [hU]; exact hP, va_K.moved hW.alike hK, hD.weaken (fun _ _ _ _ => trivial), by rw [hU]; exact ((hZ.kept hS.2.1).narrow hf9).moved hW.alike, hN.warm hW⟩⟩ rfl rfl hl.1 rfl (lv_room (Nat.le_of_ble_eq_true rfl)) dX7_makeLists_116 ⟨(Nat.zero_le _), (Nat.zero_le _)⟩) hS (fun q _ h => hf9 q h) hf9 (fun r u t H locs ht hvm hw hB hz1 hk1 hS => ?_)
        obtain ⟨hP, hK9, hD9⟩ := hB
        rw [ht] at hP
        try dsimp only at hw
        subst hw
        have hD := hD9.weaken (fun _ q _ h => hf9 q.1 h)
        refine lv_istore (lv' := [(5, .int y35.2), (4, va_re ad (M.2 b2 3)), (3, va_re ad (M.2 b3 0)), (0, .ref (ad a)), (1, va_re ad p0), (2, .int p1)]) hx hb dX7_makeLists_119 hl (by decide) (by generalize ((M.2 b2 3)) = o9; cases o9 <;> rfl) (fun ls hl => ?_)
        refine lv_aload_n hx hb dX7_makeLists_121 rfl (lv_at hl 3 rfl) ?_
        refine lv_aloadq_n hx hb dX7_makeLists_122 rfl (lv_at hl 4 rfl) ?_
        refine lv_bipush (v := (9 : Int32)) hx hb dX7_makeLists_123 (by decide) ?_
        refine lv_iload hx hb dX7_makeLists_125 (lv_at hl 0 rfl) ?_
        refine lv_iconst (v := (1 : Int32)) hx hb dX7_makeLists_127 (by decide) ?_
        refine lv_iload_n hx hb dX7_makeLists_128 rfl (lv_at hl 5 rfl) ?_
        obtain ⟨y36, hy36, hF⟩ := bnd_some hF
        have hf9 := wA_in hD hA9 hS
        refine va_calli (va_runV (As := [va_re ad p0, .int (9 : Int32), .int y35.2, .int (1 : Int32), .int p1]) (rest := []) ⟨hx, hb, hml, hown, hts⟩ (kX7_gather l D ct ad Z G y35.1 H.size a p0 ((9 : Int32)) y35.2 ((1 : Int32)) p1 y36 hc hk hy36) (cwV 5 hts gX7_makeLists_X7_gather rfl rfl rfl (by decide +kernel) ⟨Nat.le_of_ble_eq_true rfl, Nat.le_of_ble_eq_true rfl⟩) ⟨fun a U g mk q => by obtain ⟨q0, q1, qP, qK, qD, qZ, qN⟩ := q; exact ⟨q0, q1, qP, va_K.moved (u := U) (U := U.calling g mk a) (Vm.Alike.refl U.vm) qK, qD, sF.moved (u := U) (U := U.calling g mk a) (Vm.Alike.refl U.vm) qZ, nF.same rfl qN⟩, va_recv hK hP (ci := 7) (q0 := a) rfl (wld_o ct ad G y35.1 hc hk (by decide)), fun U hU hW => ⟨rfl, by rw [hU], by rw [hU]; exact hP, va_K.moved hW.alike hK, hD.weaken (fun _ _ _ _ => trivial), by rw [hU]; exact ((hZ.kept hS.2.1).narrow hf9).moved hW.alike, hN.warm hW⟩⟩ rfl rfl hl.1 rfl (lv_room (Nat.le_of_ble_eq_true rfl)) dX7_makeLists_129 ⟨(Nat.zero_le _), (Nat.zero_le _)⟩) hS (fun q _ h => hf9 q h) hf9 (fun r u t H locs ht hvm hw hB hz1 hk1 hS => ?_)
        obtain ⟨hP, hK9, hD9⟩ := hB
        rw [ht] at hP
        try dsimp only at hw
        subst hw
        have hD := hD9.weaken (fun _ q _ h => hf9 q.1 h)
        refine lv_istore (lv' := [(5, .int y36.2), (4, va_re ad (M.2 b2 3)), (3, va_re ad (M.2 b3 0)), (0, .ref (ad a)), (1, va_re ad p0), (2, .int p1)]) hx hb dX7_makeLists_132 hl (by decide) (by generalize ((M.2 b2 3)) = o9; cases o9 <;> rfl) (fun ls hl => ?_)
        refine lv_aload_n hx hb dX7_makeLists_134 rfl (lv_at hl 3 rfl) ?_
        refine lv_aloadq_n hx hb dX7_makeLists_135 rfl (lv_at hl 4 rfl) ?_
        refine lv_bipush (v := (9 : Int32)) hx hb dX7_makeLists_136 (by decide) ?_
        refine lv_iload hx hb dX7_makeLists_138 (lv_at hl 0 rfl) ?_
        refine lv_iconst (v := (3 : Int32)) hx hb dX7_makeLists_140 (by decide) ?_
        refine lv_iload_n hx hb dX7_makeLists_141 rfl (lv_at hl 5 rfl) ?_
        obtain ⟨y37, hy37, hF⟩ := bnd_some hF
        have hf9 := wA_in hD hA9 hS
        refine va_calli (va_runV (As := [va_re ad p0, .int (9 : Int32), .int y36.2, .int (3 : Int32), .int p1]) (rest := []) ⟨hx, hb, hml, hown, hts⟩ (kX7_gather l D ct ad Z G y36.1 H.size a p0 ((9 : Int32)) y36.2 ((3 : Int32)) p1 y37 hc hk hy37) (cwV 5 hts gX7_makeLists_X7_gather rfl rfl rfl (by decide +kernel) ⟨Nat.le_of_ble_eq_true rfl, Nat.le_of_ble_eq_true rfl⟩) ⟨fun a U g mk q => by obtain ⟨q0, q1, qP, qK, qD, qZ, qN⟩ := q; exact ⟨q0, q1, qP, va_K.moved (u := U) (U := U.calling g mk a) (Vm.Alike.refl U.vm) qK, qD, sF.moved (u := U) (U := U.calling g mk a) (Vm.Alike.refl U.vm) qZ, nF.same rfl qN⟩, va_recv hK hP (ci := 7) (q0 := a) rfl (wld_o ct ad G y36.1 hc hk (by decide)), fun U hU hW => ⟨rfl, by rw [hU], by rw [hU]; exact hP, va_K.moved hW.alike hK, hD.weaken (fun _ _ _ _ => trivial), by rw [hU]; exact ((hZ.kept hS.2.1).narrow hf9).moved hW.alike, hN.warm hW⟩⟩ rfl rfl hl.1 rfl (lv_room (Nat.le_of_ble_eq_true rfl)) dX7_makeLists_142 ⟨(Nat.zero_le _), (Nat.zero_le _)⟩) hS (fun q _ h => hf9 q h) hf9 (fun r u t H locs ht hvm hw hB hz1 hk1 hS => ?_)
        obtain ⟨hP, hK9, hD9⟩ := hB
        rw [ht] at hP
        try dsimp only at hw
        subst hw
        have hD := hD9.weaken (fun _ q _ h => hf9 q.1 h)
        refine lv_istore (lv' := [(5, .int y37.2), (4, va_re ad (M.2 b2 3)), (3, va_re ad (M.2 b3 0)), (0, .ref (ad a)), (1, va_re ad p0), (2, .int p1)]) hx hb dX7_makeLists_145 hl (by decide) (by generalize ((M.2 b2 3)) = o9; cases o9 <;> rfl) (fun ls hl => ?_)
        refine lv_aloadq hx hb dX7_makeLists_147 (lv_at hl 1 rfl) ?_
        refine lv_iload hx hb dX7_makeLists_149 (lv_at hl 0 rfl) ?_
        obtain ⟨y38, hy38, hF⟩ := bnd_some hF
        have hf9 := wA_in hD hA9 hS
        refine va_callv (va_runS (As := [va_re ad (M.2 b2 3), .int y37.2]) (rest := []) ⟨hx, hb, hml, hown, hts⟩ (kX7_tellApart l D ct ad Z G y37.1 H.size ((M.2 b2 3)) y37.2 y38 hy38) (va_cwS 2 hts gX7_makeLists_X7_tellApart rfl rfl rfl (by decide +kernel) ⟨Nat.le_of_ble_eq_true rfl, Nat.le_of_ble_eq_true rfl⟩) ⟨fun a U g mk q => by obtain ⟨q0, q1, qP, qK, qD, qZ, qN⟩ := q; exact ⟨q0, q1, qP, va_K.moved (u := U) (U := U.calling g mk a) (Vm.Alike.refl U.vm) qK, qD, sF.moved (u := U) (U := U.calling g mk a) (Vm.Alike.refl U.vm) qZ, nF.same rfl qN⟩, fun U hU hW => ⟨rfl, by rw [hU], by rw [hU]; exact hP, va_K.moved hW.alike hK, hD.weaken (fun _ _ _ _ => trivial), by rw [hU]; exact ((hZ.kept hS.2.1).narrow hf9).moved hW.alike, hN.warm hW⟩⟩ rfl rfl hl.1 rfl (lv_room (Nat.le_of_ble_eq_true rfl)) dX7_makeLists_151 ⟨(Nat.zero_le _), (Nat.zero_le _)⟩) hS (fun q _ h => hf9 q h) hf9 (fun u t H locs ht hvm hw hB hz1 hk1 hS => ?_)
        obtain ⟨hP, hK9, hD9⟩ := hB
        rw [ht] at hP
        have hD := hD9.weaken (fun _ q _ h => hf9 q.1 h)
        obtain rfl := Option.some.inj hF
        exact J30 _ _ _ hP hD hS (lv_sub hl [0, 1, 2, 3, 4, 5] rfl)
    · rw [if_pos c28] at hF
      refine lv_aload_n hx hb dX7_makeLists_43 rfl (lv_at hl 3 rfl) ?_
      refine lv_aloadq_n hx hb dX7_makeLists_44 rfl (lv_at hl 4 rfl) ?_
      refine lv_iconst (v := (0 : Int32)) hx hb dX7_makeLists_45 (by decide) ?_
      refine lv_iconst (v := (0 : Int32)) hx hb dX7_makeLists_46 (by decide) ?_
      refine lv_iconst (v := (0 : Int32)) hx hb dX7_makeLists_47 (by decide) ?_
      refine lv_iload_n hx hb dX7_makeLists_48 rfl (lv_at hl 5 rfl) ?_
      obtain ⟨y39, hy39, hF⟩ := bnd_some hF
      have hf9 := wA_in hD hA9 hS
      refine va_calli (va_runV (As := [va_re ad p0, .int (0 : Int32), .int (0 : Int32), .int (0 : Int32), .int p1]) (rest := []) ⟨hx, hb, hml, hown, hts⟩ (kX7_gather l D ct ad Z G y4.2 H.size a p0 ((0 : Int32)) ((0 : Int32)) ((0 : Int32)) p1 y39 hc hk hy39) (cwV 5 hts gX7_makeLists_X7_gather rfl rfl rfl (by decide +kernel) ⟨Nat.le_of_ble_eq_true rfl, Nat.le_of_ble_eq_true rfl⟩) ⟨fun a U g mk q => by obtain ⟨q0, q1, qP, qK, qD, qZ, qN⟩ := q; exact ⟨q0, q1, qP, va_K.moved (u := U) (U := U.calling g mk a) (Vm.Alike.refl U.vm) qK, qD, sF.moved (u := U) (U := U.calling g mk a) (Vm.Alike.refl U.vm) qZ, nF.same rfl qN⟩, va_recv hK hP (ci := 7) (q0 := a) rfl (wld_o ct ad G y4.2 hc hk (by decide)), fun U hU hW => ⟨rfl, by rw [hU], by rw [hU]; exact hP, va_K.moved hW.alike hK, hD.weaken (fun _ _ _ _ => trivial), by rw [hU]; exact ((hZ.kept hS.2.1).narrow hf9).moved hW.alike, hN.warm hW⟩⟩ rfl rfl hl.1 rfl (lv_room (Nat.le_of_ble_eq_true rfl)) dX7_makeLists_49 ⟨(Nat.zero_le _), (Nat.zero_le _)⟩) hS (fun q _ h => hf9 q h) hf9 (fun r u t H locs ht hvm hw hB hz1 hk1 hS => ?_)
      obtain ⟨hP, hK9, hD9⟩ := hB
      rw [ht] at hP
      try dsimp only at hw
      subst hw
      have hD := hD9.weaken (fun _ q _ h => hf9 q.1 h)
      refine lv_istore (lv' := [(5, .int y39.2), (4, va_re ad (M.2 b2 3)), (3, va_re ad (M.2 b3 0)), (0, .ref (ad a)), (1, va_re ad p0), (2, .int p1)]) hx hb dX7_makeLists_52 hl (by decide) (by generalize ((M.2 b2 3)) = o9; cases o9 <;> rfl) (fun ls hl => ?_)
      refine lv_aload_n hx hb dX7_makeLists_54 rfl (lv_at hl 3 rfl) ?_
      refine lv_aloadq_n hx hb dX7_makeLists_55 rfl (lv_at hl 4 rfl) ?_
      refine lv_iconst (v := (0 : Int32)) hx hb dX7_makeLists_56 (by decide) ?_
      refine lv_iload hx hb dX7_makeLists_57 (lv_at hl 0 rfl) ?_
      refine lv_iconst (v := (3 : Int32)) hx hb dX7_makeLists_59 (by decide) ?_
      refine lv_iload_n hx hb dX7_makeLists_60 rfl (lv_at hl 5 rfl) ?_
      obtain ⟨y40, hy40, hF⟩ := bnd_some hF
      have hf9 := wA_in hD hA9 hS
      refine va_calli (va_runV (As := [va_re ad p0, .int (0 : Int32), .int y39.2, .int (3 : Int32), .int p1]) (rest := []) ⟨hx, hb, hml, hown, hts⟩ (kX7_gather l D ct ad Z G y39.1 H.size a p0 ((0 : Int32)) y39.2 ((3 : Int32)) p1 y40 hc hk hy40) (cwV 5 hts gX7_makeLists_X7_gather rfl rfl rfl (by decide +kernel) ⟨Nat.le_of_ble_eq_true rfl, Nat.le_of_ble_eq_true rfl⟩) ⟨fun a U g mk q => by obtain ⟨q0, q1, qP, qK, qD, qZ, qN⟩ := q; exact ⟨q0, q1, qP, va_K.moved (u := U) (U := U.calling g mk a) (Vm.Alike.refl U.vm) qK, qD, sF.moved (u := U) (U := U.calling g mk a) (Vm.Alike.refl U.vm) qZ, nF.same rfl qN⟩, va_recv hK hP (ci := 7) (q0 := a) rfl (wld_o ct ad G y39.1 hc hk (by decide)), fun U hU hW => ⟨rfl, by rw [hU], by rw [hU]; exact hP, va_K.moved hW.alike hK, hD.weaken (fun _ _ _ _ => trivial), by rw [hU]; exact ((hZ.kept hS.2.1).narrow hf9).moved hW.alike, hN.warm hW⟩⟩ rfl rfl hl.1 rfl (lv_room (Nat.le_of_ble_eq_true rfl)) dX7_makeLists_61 ⟨(Nat.zero_le _), (Nat.zero_le _)⟩) hS (fun q _ h => hf9 q h) hf9 (fun r u t H locs ht hvm hw hB hz1 hk1 hS => ?_)
      obtain ⟨hP, hK9, hD9⟩ := hB
      rw [ht] at hP
      try dsimp only at hw
      subst hw
      have hD := hD9.weaken (fun _ q _ h => hf9 q.1 h)
      refine lv_pop hx hb dX7_makeLists_64 rfl ?_
      refine lv_goto (tgt := 154) hx hb dX7_makeLists_65 (by decide) ?_
      obtain rfl := Option.some.inj hF
      exact J9 _ _ _ hP hD hS (lv_sub hl [0, 1, 2, 3, 4, 5] rfl)
  clear hF
  refine itr_rule (fun (s5 : Int32 × DD) => ∀ (H : Heap) (locs : List Loc) (ls : Array Slot), va_P D classes (wld ct ad G s5.2) H → va_D A (wld ct ad G s5.2) → va_S A s.heap H locs → lv_has ls 6 [(5, .int s5.1), (4, va_re ad (M.2 b2 3)), (3, va_re ad (M.2 b3 0)), (0, .ref (ad a)), (1, va_re ad p0), (2, .int p1)] → W p l e (headSpec wuX7_makeLists ({ frames := 3, cells := 0, slots := 0, locals := 80 })).room s m ([.ref (ad a), va_re ad p0, .int p1] : List Value).toArray below meth c H locs 0 0 (MQ below (va_Qv (fun (_ : Unit) => True) (fun _ t => kE D ct ad G A y t) A) ([.ref (ad a), va_re ad p0, .int p1] : List Value).toArray s 0 0 A) (F0 m 17 ls [])) ?_ _ _ hy4 _ _ _ hP hD hS (lv_sub hl [0, 1, 2, 3, 4, 5] rfl)
  rintro s5 ⟨z41, hF, hwz41⟩ H locs ls hP hD hS hl
  try dsimp only at hF
  refine lv_iload hx hb dX7_makeLists_17 (lv_at hl 0 rfl) ?_
  refine lv_aloadq hx hb dX7_makeLists_19 (lv_at hl 1 rfl) ?_
  obtain ⟨b42, ho42, hc42, hk42, hF⟩ := dr_some hF
  refine W_st (st' := [.ref (ad b42), .int s5.1]) (by rw [va_some ho42]) ?_
  refine va_alen (v := Int32.ofNat (G.2.2 b42)) hx hb hK hP b42 2 (wld_r ct ad G s5.2 hc42 hk42) rfl rfl dX7_makeLists_21 ?_
  obtain ⟨x43, ex43, hF⟩ := ltt_some hF
  refine lv_topi (fun zx43 ezx43 => ?_)
  obtain rfl : x43 = zx43 := ex43.trans ezx43.symm
  refine lv_icmp_ge (tgt := 37) hx hb dX7_makeLists_22 (by decide) (fun c44 => ?_) (fun c44 => ?_)
  · rw [if_pos c44] at hF
    obtain rfl := Option.some.inj hF
    subst hwz41
    exact K4 _ _ _ hP hD hS (lv_sub hl [0, 1, 2, 3, 4, 5] rfl)
  · rw [if_neg c44] at hF
    refine lv_aloadq hx hb dX7_makeLists_25 (lv_at hl 1 rfl) ?_
    refine lv_iload hx hb dX7_makeLists_27 (lv_at hl 0 rfl) ?_
    refine lv_nullq (ad := ad) hx hb dX7_makeLists_29 ?_
    refine W_st (st' := [va_re ad none, .int s5.1, .ref (ad b42)]) (by rw [va_some ho42]) ?_
    obtain ⟨hvc, hF⟩ := chk_some hF
    obtain ⟨ho9, hF⟩ := chk_some hF
    refine st_q (o := none) hx hb hK hP hD hS hc42 hk42 ho9 hvc dX7_makeLists_30 (fun H locs hP hD hS => ?_)
    obtain ⟨M45, eM45, hF⟩ := ltt_some hF
    rw [← eM45] at hP hD
    obtain ⟨x46, ex46, hF⟩ := ltt_some hF
    refine lv_iinc (v := x46) (lv' := [(5, .int x46), (4, va_re ad (M.2 b2 3)), (3, va_re ad (M.2 b3 0)), (0, .ref (ad a)), (1, va_re ad p0), (2, .int p1)]) hx hb dX7_makeLists_31 hl (k := 0) rfl (by rw [ex46]; rfl) (by decide) (by generalize ((M.2 b2 3)) = o9; cases o9 <;> rfl) (fun ls hl => ?_)
    refine lv_goto (tgt := 17) hx hb dX7_makeLists_34 (by decide) ?_
    obtain rfl := Option.some.inj hF
    exact hwz41 _ _ _ hP hD hS (lv_sub hl [0, 1, 2, 3, 4, 5] rfl)
set_option maxRecDepth 20000 in
theorem gX7_mark_X3_isOwn : GoodIn wuX7_mark (wsV RX7 78 RX3 yX3_isOwn wuX3_isOwn) := gu_V mw_1004 mw_1005 mw_1006 mw_174 mw_1007
set_option maxRecDepth 20000 in
set_option maxRecDepth 20000 in
theorem gX7_mark_X7_references : GoodIn wuX7_mark (wsV RX7 160 RX7 yX7_references wuX7_references) := gu_V mw_1033 mw_1035 mw_12 mw_170 mw_1036
set_option maxRecDepth 20000 in
set_option maxRecDepth 20000 in
theorem gX7_mark_X7_leastShort : GoodIn wuX7_mark (wsV RX7 156 RX7 yX7_leastShort wuX7_leastShort) := gu_V mw_1026 mw_1028 mw_11 mw_170 mw_1029
set_option maxRecDepth 20000 in
set_option maxRecDepth 20000 in
theorem gX7_mark_X7_release : GoodIn wuX7_mark (va_wsS RX7 152 yX7_release wuX7_release) := gu_S mw_1019 mw_1020 mw_170 mw_1021
set_option maxRecDepth 20000 in
theorem gX7_mark_X7_leastLong : GoodIn wuX7_mark (wsV RX7 192 RX7 yX7_leastLong wuX7_leastLong) := gu_V mw_1049 mw_1051 mw_16 mw_170 mw_1052
set_option maxRecDepth 20000 in
set_option maxRecDepth 20000 in
theorem gX7_mark_X7_slide : GoodIn wuX7_mark (wsV RX7 182 RX7 yX7_slide wuX7_slide) := gu_V mw_1022 mw_1024 mw_10 mw_170 mw_1025
set_option maxRecDepth 20000 in
set_option maxRecDepth 20000 in
theorem gX7_mark_X7_releaseAll : GoodIn wuX7_mark (wsV RX7 179 RX7 yX7_releaseAll wuX7_releaseAll) := gu_V mw_1015 mw_1017 mw_9 mw_170 mw_1018
set_option maxRecDepth 20000 in
theorem dX7_mark_0 : decode cX7_mark 0 = .ok (.iconst 0, 1) := by decide +kernel
theorem dX7_mark_1 : decode cX7_mark 1 = .ok (.istore 5, 2) := by decide +kernel
theorem dX7_mark_3 : decode cX7_mark 3 = .ok (.aload_n 2, 1) := by decide +kernel
theorem dX7_mark_4 : decode cX7_mark 4 = .ok (.invokevirtual 78, 3) := by decide +kernel
theorem dX7_mark_7 : decode cX7_mark 7 = .ok (.ifCond .eq 42, 3) := by decide +kernel
theorem dX7_mark_10 : decode cX7_mark 10 = .ok (.aload_n 0, 1) := by decide +kernel
theorem dX7_mark_11 : decode cX7_mark 11 = .ok (.invokevirtual 179, 3) := by decide +kernel
theorem dX7_mark_14 : decode cX7_mark 14 = .ok (.aload_n 0, 1) := by decide +kernel
theorem dX7_mark_15 : decode cX7_mark 15 = .ok (.aload_n 2, 1) := by decide +kernel
theorem dX7_mark_16 : decode cX7_mark 16 = .ok (.getfield 73, 3) := by decide +kernel
theorem dX7_mark_19 : decode cX7_mark 19 = .ok (.bipush 20, 2) := by decide +kernel
theorem dX7_mark_21 : decode cX7_mark 21 = .ok (.iaload, 1) := by decide +kernel
theorem dX7_mark_22 : decode cX7_mark 22 = .ok (.putfield 33, 3) := by decide +kernel
theorem dX7_mark_25 : decode cX7_mark 25 = .ok (.aload_n 2, 1) := by decide +kernel
theorem dX7_mark_26 : decode cX7_mark 26 = .ok (.getfield 73, 3) := by decide +kernel
theorem dX7_mark_29 : decode cX7_mark 29 = .ok (.bipush 20, 2) := by decide +kernel
theorem dX7_mark_31 : decode cX7_mark 31 = .ok (.iaload, 1) := by decide +kernel
theorem dX7_mark_32 : decode cX7_mark 32 = .ok (.iconst 1, 1) := by decide +kernel
theorem dX7_mark_33 : decode cX7_mark 33 = .ok (.if_icmp .ne 37, 3) := by decide +kernel
theorem dX7_mark_36 : decode cX7_mark 36 = .ok (.aload_n 1, 1) := by decide +kernel
theorem dX7_mark_37 : decode cX7_mark 37 = .ok (.iconst 2, 1) := by decide +kernel
theorem dX7_mark_38 : decode cX7_mark 38 = .ok (.putfield 123, 3) := by decide +kernel
theorem dX7_mark_41 : decode cX7_mark 41 = .ok (.aload_n 1, 1) := by decide +kernel
theorem dX7_mark_42 : decode cX7_mark 42 = .ok (.iconst 0, 1) := by decide +kernel
theorem dX7_mark_43 : decode cX7_mark 43 = .ok (.putfield 129, 3) := by decide +kernel
theorem dX7_mark_46 : decode cX7_mark 46 = .ok (.goto 24, 3) := by decide +kernel
theorem dX7_mark_49 : decode cX7_mark 49 = .ok (.aload_n 2, 1) := by decide +kernel
theorem dX7_mark_50 : decode cX7_mark 50 = .ok (.getfield 73, 3) := by decide +kernel
theorem dX7_mark_53 : decode cX7_mark 53 = .ok (.bipush 24, 2) := by decide +kernel
theorem dX7_mark_55 : decode cX7_mark 55 = .ok (.iaload, 1) := by decide +kernel
theorem dX7_mark_56 : decode cX7_mark 56 = .ok (.ifCond .ne 14, 3) := by decide +kernel
theorem dX7_mark_59 : decode cX7_mark 59 = .ok (.aload_n 0, 1) := by decide +kernel
theorem dX7_mark_60 : decode cX7_mark 60 = .ok (.aload_n 1, 1) := by decide +kernel
theorem dX7_mark_61 : decode cX7_mark 61 = .ok (.getfield 92, 3) := by decide +kernel
theorem dX7_mark_64 : decode cX7_mark 64 = .ok (.iload_n 3, 1) := by decide +kernel
theorem dX7_mark_65 : decode cX7_mark 65 = .ok (.iload 4, 2) := by decide +kernel
theorem dX7_mark_67 : decode cX7_mark 67 = .ok (.invokevirtual 182, 3) := by decide +kernel
theorem dX7_mark_70 : decode cX7_mark 70 = .ok (.iconst 0, 1) := by decide +kernel
theorem dX7_mark_71 : decode cX7_mark 71 = .ok (.istore 6, 2) := by decide +kernel
theorem dX7_mark_73 : decode cX7_mark 73 = .ok (.iload 6, 2) := by decide +kernel
theorem dX7_mark_75 : decode cX7_mark 75 = .ok (.aload_n 2, 1) := by decide +kernel
theorem dX7_mark_76 : decode cX7_mark 76 = .ok (.getfield 73, 3) := by decide +kernel
theorem dX7_mark_79 : decode cX7_mark 79 = .ok (.bipush 24, 2) := by decide +kernel
theorem dX7_mark_81 : decode cX7_mark 81 = .ok (.iaload, 1) := by decide +kernel
theorem dX7_mark_82 : decode cX7_mark 82 = .ok (.if_icmp .ge 75, 3) := by decide +kernel
theorem dX7_mark_85 : decode cX7_mark 85 = .ok (.aload_n 2, 1) := by decide +kernel
theorem dX7_mark_86 : decode cX7_mark 86 = .ok (.invokevirtual 78, 3) := by decide +kernel
theorem dX7_mark_89 : decode cX7_mark 89 = .ok (.ifCond .ne 68, 3) := by decide +kernel
theorem dX7_mark_92 : decode cX7_mark 92 = .ok (.aload_n 2, 1) := by decide +kernel
theorem dX7_mark_93 : decode cX7_mark 93 = .ok (.getfield 185, 3) := by decide +kernel
theorem dX7_mark_96 : decode cX7_mark 96 = .ok (.iconst 3, 1) := by decide +kernel
theorem dX7_mark_97 : decode cX7_mark 97 = .ok (.iload 6, 2) := by decide +kernel
theorem dX7_mark_99 : decode cX7_mark 99 = .ok (.imul, 1) := by decide +kernel
theorem dX7_mark_100 : decode cX7_mark 100 = .ok (.iaload, 1) := by decide +kernel
theorem dX7_mark_101 : decode cX7_mark 101 = .ok (.istore 7, 2) := by decide +kernel
theorem dX7_mark_103 : decode cX7_mark 103 = .ok (.iload 5, 2) := by decide +kernel
theorem dX7_mark_105 : decode cX7_mark 105 = .ok (.ifCond .ne 9, 3) := by decide +kernel
theorem dX7_mark_108 : decode cX7_mark 108 = .ok (.iload 7, 2) := by decide +kernel
theorem dX7_mark_110 : decode cX7_mark 110 = .ok (.iconst 5, 1) := by decide +kernel
theorem dX7_mark_111 : decode cX7_mark 111 = .ok (.if_icmp .ne 7, 3) := by decide +kernel
theorem dX7_mark_114 : decode cX7_mark 114 = .ok (.iconst 1, 1) := by decide +kernel
theorem dX7_mark_115 : decode cX7_mark 115 = .ok (.goto 4, 3) := by decide +kernel
theorem dX7_mark_118 : decode cX7_mark 118 = .ok (.iconst 0, 1) := by decide +kernel
theorem dX7_mark_119 : decode cX7_mark 119 = .ok (.istore 5, 2) := by decide +kernel
theorem dX7_mark_121 : decode cX7_mark 121 = .ok (.aload_n 0, 1) := by decide +kernel
theorem dX7_mark_122 : decode cX7_mark 122 = .ok (.aload_n 1, 1) := by decide +kernel
theorem dX7_mark_123 : decode cX7_mark 123 = .ok (.iload 7, 2) := by decide +kernel
theorem dX7_mark_125 : decode cX7_mark 125 = .ok (.aload_n 2, 1) := by decide +kernel
theorem dX7_mark_126 : decode cX7_mark 126 = .ok (.getfield 185, 3) := by decide +kernel
theorem dX7_mark_129 : decode cX7_mark 129 = .ok (.iconst 3, 1) := by decide +kernel
theorem dX7_mark_130 : decode cX7_mark 130 = .ok (.iload 6, 2) := by decide +kernel
theorem dX7_mark_132 : decode cX7_mark 132 = .ok (.imul, 1) := by decide +kernel
theorem dX7_mark_133 : decode cX7_mark 133 = .ok (.iconst 1, 1) := by decide +kernel
theorem dX7_mark_134 : decode cX7_mark 134 = .ok (.iadd, 1) := by decide +kernel
theorem dX7_mark_135 : decode cX7_mark 135 = .ok (.iaload, 1) := by decide +kernel
theorem dX7_mark_136 : decode cX7_mark 136 = .ok (.aload_n 2, 1) := by decide +kernel
theorem dX7_mark_137 : decode cX7_mark 137 = .ok (.getfield 185, 3) := by decide +kernel
theorem dX7_mark_140 : decode cX7_mark 140 = .ok (.iconst 3, 1) := by decide +kernel
theorem dX7_mark_141 : decode cX7_mark 141 = .ok (.iload 6, 2) := by decide +kernel
theorem dX7_mark_143 : decode cX7_mark 143 = .ok (.imul, 1) := by decide +kernel
theorem dX7_mark_144 : decode cX7_mark 144 = .ok (.iconst 2, 1) := by decide +kernel
theorem dX7_mark_145 : decode cX7_mark 145 = .ok (.iadd, 1) := by decide +kernel
theorem dX7_mark_146 : decode cX7_mark 146 = .ok (.iaload, 1) := by decide +kernel
theorem dX7_mark_147 : decode cX7_mark 147 = .ok (.iload_n 3, 1) := by decide +kernel
theorem dX7_mark_148 : decode cX7_mark 148 = .ok (.invokevirtual 188, 3) := by decide +kernel
theorem dX7_mark_151 : decode cX7_mark 151 = .ok (.iinc 6 1, 3) := by decide +kernel
theorem dX7_mark_154 : decode cX7_mark 154 = .ok (.goto (-81), 3) := by decide +kernel
theorem dX7_mark_157 : decode cX7_mark 157 = .ok (.aload_n 1, 1) := by decide +kernel
theorem dX7_mark_158 : decode cX7_mark 158 = .ok (.getfield 123, 3) := by decide +kernel
theorem dX7_mark_161 : decode cX7_mark 161 = .ok (.iconst 2, 1) := by decide +kernel
theorem dX7_mark_162 : decode cX7_mark 162 = .ok (.if_icmp .eq 8, 3) := by decide +kernel
theorem dX7_mark_165 : decode cX7_mark 165 = .ok (.aload_n 1, 1) := by decide +kernel
theorem dX7_mark_166 : decode cX7_mark 166 = .ok (.iconst 1, 1) := by decide +kernel
theorem dX7_mark_167 : decode cX7_mark 167 = .ok (.putfield 123, 3) := by decide +kernel
theorem dX7_mark_170 : decode cX7_mark 170 = .ok (.iconst 0, 1) := by decide +kernel
theorem dX7_mark_171 : decode cX7_mark 171 = .ok (.istore 6, 2) := by decide +kernel
theorem dX7_mark_173 : decode cX7_mark 173 = .ok (.iload 6, 2) := by decide +kernel
theorem dX7_mark_175 : decode cX7_mark 175 = .ok (.bipush 6, 2) := by decide +kernel
theorem dX7_mark_177 : decode cX7_mark 177 = .ok (.if_icmp .ge 57, 3) := by decide +kernel
theorem dX7_mark_180 : decode cX7_mark 180 = .ok (.aload_n 0, 1) := by decide +kernel
theorem dX7_mark_181 : decode cX7_mark 181 = .ok (.invokevirtual 160, 3) := by decide +kernel
theorem dX7_mark_184 : decode cX7_mark 184 = .ok (.iconst 1, 1) := by decide +kernel
theorem dX7_mark_185 : decode cX7_mark 185 = .ok (.iadd, 1) := by decide +kernel
theorem dX7_mark_186 : decode cX7_mark 186 = .ok (.iload 4, 2) := by decide +kernel
theorem dX7_mark_188 : decode cX7_mark 188 = .ok (.if_icmp .le 46, 3) := by decide +kernel
theorem dX7_mark_191 : decode cX7_mark 191 = .ok (.aload_n 0, 1) := by decide +kernel
theorem dX7_mark_192 : decode cX7_mark 192 = .ok (.aload_n 1, 1) := by decide +kernel
theorem dX7_mark_193 : decode cX7_mark 193 = .ok (.getfield 92, 3) := by decide +kernel
theorem dX7_mark_196 : decode cX7_mark 196 = .ok (.iload_n 3, 1) := by decide +kernel
theorem dX7_mark_197 : decode cX7_mark 197 = .ok (.invokevirtual 156, 3) := by decide +kernel
theorem dX7_mark_200 : decode cX7_mark 200 = .ok (.astore 7, 2) := by decide +kernel
theorem dX7_mark_202 : decode cX7_mark 202 = .ok (.aload 7, 2) := by decide +kernel
theorem dX7_mark_204 : decode cX7_mark 204 = .ok (.ifnonnull 10, 3) := by decide +kernel
theorem dX7_mark_207 : decode cX7_mark 207 = .ok (.aload_n 0, 1) := by decide +kernel
theorem dX7_mark_208 : decode cX7_mark 208 = .ok (.invokevirtual 192, 3) := by decide +kernel
theorem dX7_mark_211 : decode cX7_mark 211 = .ok (.goto 5, 3) := by decide +kernel
theorem dX7_mark_214 : decode cX7_mark 214 = .ok (.aload 7, 2) := by decide +kernel
theorem dX7_mark_216 : decode cX7_mark 216 = .ok (.astore 7, 2) := by decide +kernel
theorem dX7_mark_218 : decode cX7_mark 218 = .ok (.aload 7, 2) := by decide +kernel
theorem dX7_mark_220 : decode cX7_mark 220 = .ok (.ifnull 8, 3) := by decide +kernel
theorem dX7_mark_223 : decode cX7_mark 223 = .ok (.aload 7, 2) := by decide +kernel
theorem dX7_mark_225 : decode cX7_mark 225 = .ok (.invokestatic 152, 3) := by decide +kernel
theorem dX7_mark_228 : decode cX7_mark 228 = .ok (.iinc 6 1, 3) := by decide +kernel
theorem dX7_mark_231 : decode cX7_mark 231 = .ok (.goto (-58), 3) := by decide +kernel
theorem dX7_mark_234 : decode cX7_mark 234 = .ok (.iload 5, 2) := by decide +kernel
theorem dX7_mark_236 : decode cX7_mark 236 = .ok (.ireturn, 1) := by decide +kernel
def FX7_mark (G : GG) (M : DD) (a : Nat) (p0 : Option Nat) (p1 : Option Nat) (p2 : Int32) (p3 : Int32) : Option (DD × Int32) :=
  dr G 3 p1 fun b2 =>
  bnd (FX3_isOwn G M b2) fun y3 =>
  bnd (if y3.2 = ((0 : Int32)) then (dr G 13 ((y3.1.2 b2 0)) fun b50 =>
  chk (¬ (((24 : Int32)) < 0 ∨ G.2.2 b50 ≤ ((24 : Int32)).toNatClampNeg)) <|
  ltt (y3.1.1 b50 ((24 : Int32)).toNatClampNeg) fun x51 =>
  bnd (if x51 = ((0 : Int32)) then (dr G 4 p0 fun b54 =>
  ltt (y3.1.1 b54 8) fun x55 =>
  bnd (FX7_slide G y3.1 a x55 p2 p3) fun y56 =>
  some (y56)) else
  (some (y3.1))) fun (y52 : DD) =>
  some (y52)) else
  (bnd (FX7_releaseAll G y3.1 a) fun y57 =>
  dr G 13 ((y57.2 b2 0)) fun b58 =>
  chk (¬ (((20 : Int32)) < 0 ∨ G.2.2 b58 ≤ ((20 : Int32)).toNatClampNeg)) <|
  ltt (y57.1 b58 ((20 : Int32)).toNatClampNeg) fun x59 =>
  ltt (uI y57 a 4 x59) fun M60 =>
  dr G 13 ((M60.2 b2 0)) fun b61 =>
  chk (¬ (((20 : Int32)) < 0 ∨ G.2.2 b61 ≤ ((20 : Int32)).toNatClampNeg)) <|
  ltt (M60.1 b61 ((20 : Int32)).toNatClampNeg) fun x62 =>
  bnd (if x62 = ((1 : Int32)) then (dr G 4 p0 fun b65 =>
  ltt (uI M60 b65 10 ((2 : Int32))) fun M66 =>
  ltt (uI M66 b65 11 ((0 : Int32))) fun M67 =>
  some (M67)) else
  (some (M60))) fun (y63 : DD) =>
  some (y63))) fun (y4 : DD) =>
  bnd (itr (fun (s6 : Int32 × DD) => ((dr G 13 ((s6.2.2 b2 0)) fun b31 =>
  chk (¬ (((24 : Int32)) < 0 ∨ G.2.2 b31 ≤ ((24 : Int32)).toNatClampNeg)) <|
  ltt (s6.2.1 b31 ((24 : Int32)).toNatClampNeg) fun x32 =>
  if x32 ≤ ((0 : Int32)) then (some (.inr (s6.1, s6.2))) else
  (bnd (FX3_isOwn G s6.2 b2) fun y34 =>
  if y34.2 = ((0 : Int32)) then (ltt ((((3 : Int32)) * ((0 : Int32)))) fun x36 =>
  dr G 13 ((y34.1.2 b2 2)) fun b37 =>
  chk (¬ (x36 < 0 ∨ G.2.2 b37 ≤ x36.toNatClampNeg)) <|
  ltt (y34.1.1 b37 x36.toNatClampNeg) fun x38 =>
  bnd (if s6.1 = ((0 : Int32)) then (bnd (if x38 = ((5 : Int32)) then (some ((1 : Int32))) else
  (some ((0 : Int32)))) fun (y47 : Int32) =>
  some (y47)) else
  (some ((1 : Int32)))) fun (y39 : Int32) =>
  ltt ((((3 : Int32)) * ((0 : Int32)))) fun x40 =>
  ltt ((x40 + ((1 : Int32)))) fun x41 =>
  chk (¬ (x41 < 0 ∨ G.2.2 b37 ≤ x41.toNatClampNeg)) <|
  ltt (y34.1.1 b37 x41.toNatClampNeg) fun x42 =>
  ltt ((((3 : Int32)) * ((0 : Int32)))) fun x43 =>
  ltt ((x43 + ((2 : Int32)))) fun x44 =>
  chk (¬ (x44 < 0 ∨ G.2.2 b37 ≤ x44.toNatClampNeg)) <|
  ltt (y34.1.1 b37 x44.toNatClampNeg) fun x45 =>
  none) else
  (some (.inr (s6.1, y34.1))))) : Option ((Int32 × DD) ⊕ (Int32 × DD)))) 1000000 ((0 : Int32), y4)) fun (y5 : Int32 × DD) =>
  dr G 4 p0 fun b8 =>
  ltt (y5.2.1 b8 10) fun x9 =>
  bnd (if x9 = ((2 : Int32)) then (some (y5.2)) else
  (ltt (uI y5.2 b8 10 ((1 : Int32))) fun M29 =>
  some (M29))) fun (y10 : DD) =>
  bnd (itr (fun (s12 : Int32 × DD) => ((if ((6 : Int32)) ≤ s12.1 then (some (.inr (s12.1, s12.2))) else
  (bnd (FX7_references G s12.2 a) fun y16 =>
  ltt ((y16.2 + ((1 : Int32)))) fun x17 =>
  if x17 ≤ p3 then (some (.inr (s12.1, y16.1))) else
  (ltt (y16.1.1 b8 8) fun x19 =>
  bnd (FX7_leastShort G y16.1 a x19 p2) fun y20 =>
  bnd (if y20.2 = none then (bnd (FX7_leastLong G y20.1 a) fun y27 =>
  some (y27.2, y27.1)) else
  (some (y20.2, y20.1))) fun (y21 : Option Nat × DD) =>
  bnd (if y21.1 = none then (some (y21.2)) else
  (bnd (FX7_release G y21.2 y21.1) fun y25 =>
  some (y25))) fun (y22 : DD) =>
  ltt (s12.1 + (1 : Int32)) fun x23 =>
  some (.inl (x23, y22))))) : Option ((Int32 × DD) ⊕ (Int32 × DD)))) 1000000 ((0 : Int32), y10)) fun (y11 : Int32 × DD) =>
  chk (y5.1 = 0 ∨ y5.1 = 1) <|
  some (y11.2, y5.1)
set_option maxHeartbeats 4000000 in
set_option maxRecDepth 100000 in
theorem kX7_mark (l : Launch) (D : va_G) (ct : CT) (ad : Nat → Nat) (Z : Nat → Nat) (G : GG) (M : DD) (sz : Nat) (a : Nat) (p0 : Option Nat) (p1 : Option Nat) (p2 : Int32) (p3 : Int32) (y : DD × Int32) (hc : a < G.1) (hk : G.2.1 a = 7) (hF : FX7_mark G M a p0 p1 p2 p3 = some y) : Met l yX7_mark wuX7_mark ({ frames := 3, cells := 0, slots := 0, locals := 71 }) (va_Pc [.ref (ad a), va_re ad p0, va_re ad p1, .int p2, .int p3] (kB D ct ad Z G M sz)) (va_Qi (fun (q : Int32) (_ : Unit) => q = y.2) (fun _ t => kE D ct ad G (wA ad G sz) y.1 t) (wA ad G sz)) 0 0 (wA ad G sz) := by
  refine Met.ofW (cc := cX7_mark) (maxL := 8) (ret := (some .boolean)) (by decide) rfl ?_
  intro p e s m args below meth c s₁ B hml hv
  obtain ⟨rfl, hsz, hP, hK, hD0, hZ, hN⟩ := hv
  have hx := B.exec
  have hb := B.bytes
  have hr := B.returns
  have hts := atoms_spec (ws := wuX7_mark) B.pre
  have hown : s.vm.findClass RX7 = some m.cls := findClass_of_methodNamed B.named
  have hlocks := B.notSynchronized
  subst hsz
  have hD := wD_self (sz := s.heap.size) hD0
  have hA9 : ∀ q, s.heap.size ≤ q → wA ad G s.heap.size q := fun q h => Or.inr h
  generalize hAe : wA ad G s.heap.size = A at hD hA9 hZ ⊢
  have hS : va_S A s.heap s.heap [] := va_S.rf
  have hl := lv_entry ([.ref (ad a), va_re ad p0, va_re ad p1, .int p2, .int p3]) (n := 8) (by cases p0 <;> cases p1 <;> exact Nat.le_of_ble_eq_true rfl)
  rw [lg_entry_eq]
  generalize (lg_sl ([.ref (ad a), va_re ad p0, va_re ad p1, .int p2, .int p3]) ++ List.replicate (8 - (lg_sl ([.ref (ad a), va_re ad p0, va_re ad p1, .int p2, .int p3])).length) Slot.unset).toArray = ls at hl ⊢
  have hl : lv_has ls 8 [(0, .ref (ad a)), (1, va_re ad p0), (2, va_re ad p1), (3, .int p2), (4, .int p3)] := by have e9 : lv_args 0 [.ref (ad a), va_re ad p0, va_re ad p1, .int p2, .int p3] = [(0, .ref (ad a)), (1, va_re ad p0), (2, va_re ad p1), (3, .int p2), (4, .int p3)] := (by cases p0 <;> cases p1 <;> rfl); rw [e9] at hl; exact hl
  unfold FX7_mark at hF
  refine lv_iconst (v := (0 : Int32)) hx hb dX7_mark_0 (by decide) ?_
  refine lv_istore (lv' := [(5, .int (0 : Int32)), (0, .ref (ad a)), (1, va_re ad p0), (2, va_re ad p1), (3, .int p2), (4, .int p3)]) hx hb dX7_mark_1 hl (by decide) rfl (fun ls hl => ?_)
  refine lv_aloadq_n hx hb dX7_mark_3 rfl (lv_at hl 3 rfl) ?_
  obtain ⟨b2, ho2, hc2, hk2, hF⟩ := dr_some hF
  refine W_st (st' := [.ref (ad b2)]) (by rw [va_some ho2]) ?_
  obtain ⟨y3, hy3, hF⟩ := bnd_some hF
  have hf9 := wA_in hD hA9 hS
  refine va_calli (va_runV (As := []) (rest := []) ⟨hx, hb, hml, hown, hts⟩ (kX3_isOwn l D ct ad Z G M s.heap.size b2 y3 hc2 hk2 hy3) (cwV 0 hts gX7_mark_X3_isOwn rfl rfl rfl (by decide +kernel) ⟨Nat.le_of_ble_eq_true rfl, Nat.le_of_ble_eq_true rfl⟩) ⟨fun a U g mk q => by obtain ⟨q0, q1, qP, qK, qD, qZ, qN⟩ := q; exact ⟨q0, q1, qP, va_K.moved (u := U) (U := U.calling g mk a) (Vm.Alike.refl U.vm) qK, qD, sF.moved (u := U) (U := U.calling g mk a) (Vm.Alike.refl U.vm) qZ, nF.same rfl qN⟩, va_recv hK hP (ci := 3) (q0 := b2) rfl (wld_o ct ad G M hc2 hk2 (by decide)), fun U hU hW => ⟨rfl, by rw [hU], by rw [hU]; exact hP, va_K.moved hW.alike hK, hD.weaken (fun _ _ _ _ => trivial), by rw [hU]; exact ((hZ.kept hS.2.1).narrow hf9).moved hW.alike, hN.warm hW⟩⟩ rfl rfl hl.1 rfl (lv_room (Nat.le_of_ble_eq_true rfl)) dX7_mark_4 ⟨(Nat.zero_le _), (Nat.zero_le _)⟩) hS (fun q _ h => hf9 q h) hf9 (fun r u t H locs ht hvm hw hB hz1 hk1 hS => ?_)
  obtain ⟨hP, hK9, hD9⟩ := hB
  rw [ht] at hP
  try dsimp only at hw
  subst hw
  have hD := hD9.weaken (fun _ q _ h => hf9 q.1 h)
  obtain ⟨y4, hy4, hF⟩ := bnd_some hF
  have J4 : ∀ (H : Heap) (locs : List Loc) (ls : Array Slot), va_P D classes (wld ct ad G y4) H → va_D A (wld ct ad G y4) → va_S A s.heap H locs → lv_has ls 8 [(5, .int (0 : Int32)), (0, .ref (ad a)), (1, va_re ad p0), (2, va_re ad p1), (3, .int p2), (4, .int p3)] → W p l e (headSpec wuX7_mark ({ frames := 3, cells := 0, slots := 0, locals := 71 })).room s m ([.ref (ad a), va_re ad p0, va_re ad p1, .int p2, .int p3] : List Value).toArray below meth c H locs 0 0 (MQ below (va_Qi (fun (q : Int32) (_ : Unit) => q = y.2) (fun _ t => kE D ct ad G A y.1 t) A) ([.ref (ad a), va_re ad p0, va_re ad p1, .int p2, .int p3] : List Value).toArray s 0 0 A) (F0 m 70 ls []) := by
    intro H locs ls hP hD hS hl
    refine lv_iconst (v := (0 : Int32)) hx hb dX7_mark_70 (by decide) ?_
    refine lv_istore (lv' := [(6, .int (0 : Int32)), (5, .int (0 : Int32)), (0, .ref (ad a)), (1, va_re ad p0), (2, va_re ad p1), (3, .int p2), (4, .int p3)]) hx hb dX7_mark_71 hl (by decide) rfl (fun ls hl => ?_)
    obtain ⟨y5, hy5, hF⟩ := bnd_some hF
    have K5 : ∀ (H : Heap) (locs : List Loc) (ls : Array Slot), va_P D classes (wld ct ad G y5.2) H → va_D A (wld ct ad G y5.2) → va_S A s.heap H locs → lv_has ls 8 [(6, .int (0 : Int32)), (5, .int y5.1), (0, .ref (ad a)), (1, va_re ad p0), (2, va_re ad p1), (3, .int p2), (4, .int p3)] → W p l e (headSpec wuX7_mark ({ frames := 3, cells := 0, slots := 0, locals := 71 })).room s m ([.ref (ad a), va_re ad p0, va_re ad p1, .int p2, .int p3] : List Value).toArray below meth c H locs 0 0 (MQ below (va_Qi (fun (q : Int32) (_ : Unit) => q = y.2) (fun _ t => kE D ct ad G A y.1 t) A) ([.ref (ad a), va_re ad p0, va_re ad p1, .int p2, .int p3] : List Value).toArray s 0 0 A) (F0 m 157 ls []) := by
      intro H locs ls hP hD hS hl
      refine lv_aloadq_n hx hb dX7_mark_157 rfl (lv_at hl 3 rfl) ?_
      obtain ⟨b8, ho8, hc8, hk8, hF⟩ := dr_some hF
      refine W_st (st' := [.ref (ad b8)]) (by rw [va_some ho8]) ?_
      refine va_get (D := D) (ci := 4) (v := .int (y5.2.1 b8 10)) (C := RX4) (T := TX4) (N := 18) hx hb hts (mus hf_X4) hown hK hP b8 (wld_o ct ad G y5.2 hc8 hk8 (by decide)) rfl 10 (by decide) (hts (.fieldLink RX7 123 "VideoSuite$Picture" "use" "I") (mu mw_1460)) (fun _ h9 => h9) rfl dX7_mark_158 ?_
      obtain ⟨x9, ex9, hF⟩ := ltt_some hF
      refine lv_topi (fun zx9 ezx9 => ?_)
      obtain rfl : x9 = zx9 := ex9.trans ezx9.symm
      refine lv_iconst (v := (2 : Int32)) hx hb dX7_mark_161 (by decide) ?_
      obtain ⟨y10, hy10, hF⟩ := bnd_some hF
      have J10 : ∀ (H : Heap) (locs : List Loc) (ls : Array Slot), va_P D classes (wld ct ad G y10) H → va_D A (wld ct ad G y10) → va_S A s.heap H locs → lv_has ls 8 [(6, .int (0 : Int32)), (5, .int y5.1), (0, .ref (ad a)), (1, va_re ad p0), (2, va_re ad p1), (3, .int p2), (4, .int p3)] → W p l e (headSpec wuX7_mark ({ frames := 3, cells := 0, slots := 0, locals := 71 })).room s m ([.ref (ad a), va_re ad p0, va_re ad p1, .int p2, .int p3] : List Value).toArray below meth c H locs 0 0 (MQ below (va_Qi (fun (q : Int32) (_ : Unit) => q = y.2) (fun _ t => kE D ct ad G A y.1 t) A) ([.ref (ad a), va_re ad p0, va_re ad p1, .int p2, .int p3] : List Value).toArray s 0 0 A) (F0 m 170 ls []) := by
        intro H locs ls hP hD hS hl
        refine lv_iconst (v := (0 : Int32)) hx hb dX7_mark_170 (by decide) ?_
        refine lv_istore (lv' := [(6, .int (0 : Int32)), (5, .int y5.1), (0, .ref (ad a)), (1, va_re ad p0), (2, va_re ad p1), (3, .int p2), (4, .int p3)]) hx hb dX7_mark_171 hl (by decide) rfl (fun ls hl => ?_)
        obtain ⟨y11, hy11, hF⟩ := bnd_some hF
        have K11 : ∀ (H : Heap) (locs : List Loc) (ls : Array Slot), va_P D classes (wld ct ad G y11.2) H → va_D A (wld ct ad G y11.2) → va_S A s.heap H locs → lv_has ls 8 [(6, .int y11.1), (5, .int y5.1), (0, .ref (ad a)), (1, va_re ad p0), (2, va_re ad p1), (3, .int p2), (4, .int p3)] → W p l e (headSpec wuX7_mark ({ frames := 3, cells := 0, slots := 0, locals := 71 })).room s m ([.ref (ad a), va_re ad p0, va_re ad p1, .int p2, .int p3] : List Value).toArray below meth c H locs 0 0 (MQ below (va_Qi (fun (q : Int32) (_ : Unit) => q = y.2) (fun _ t => kE D ct ad G A y.1 t) A) ([.ref (ad a), va_re ad p0, va_re ad p1, .int p2, .int p3] : List Value).toArray s 0 0 A) (F0 m 234 ls []) := by
          intro H locs ls hP hD hS hl
          refine lv_iload hx hb dX7_mark_234 (lv_at hl 1 rfl) ?_
          obtain ⟨hz9, hF⟩ := chk_some hF
          obtain rfl := Option.some.inj hF
          exact W.zret (v := y5.1) (ty := .boolean) hx hb hr (nar_z hz9).1 (fun t ht hW => ⟨⟨_, (), rfl, rfl, ⟨by rw [ht]; exact hP, va_K.moved hW.alike hK, hD⟩⟩, hS.F ht⟩) hS.2.2 dX7_mark_236
        clear hF
        refine itr_rule (fun (s12 : Int32 × DD) => ∀ (H : Heap) (locs : List Loc) (ls : Array Slot), va_P D classes (wld ct ad G s12.2) H → va_D A (wld ct ad G s12.2) → va_S A s.heap H locs → lv_has ls 8 [(6, .int s12.1), (5, .int y5.1), (0, .ref (ad a)), (1, va_re ad p0), (2, va_re ad p1), (3, .int p2), (4, .int p3)] → W p l e (headSpec wuX7_mark ({ frames := 3, cells := 0, slots := 0, locals := 71 })).room s m ([.ref (ad a), va_re ad p0, va_re ad p1, .int p2, .int p3] : List Value).toArray below meth c H locs 0 0 (MQ below (va_Qi (fun (q : Int32) (_ : Unit) => q = y.2) (fun _ t => kE D ct ad G A y.1 t) A) ([.ref (ad a), va_re ad p0, va_re ad p1, .int p2, .int p3] : List Value).toArray s 0 0 A) (F0 m 173 ls [])) ?_ _ _ hy11 _ _ _ hP hD hS (lv_sub hl [0, 1, 2, 3, 4, 5, 6] rfl)
        rintro s12 ⟨z14, hF, hwz14⟩ H locs ls hP hD hS hl
        try dsimp only at hF
        refine lv_iload hx hb dX7_mark_173 (lv_at hl 0 rfl) ?_
        refine lv_bipush (v := (6 : Int32)) hx hb dX7_mark_175 (by decide) ?_
        refine lv_icmp_ge (tgt := 234) hx hb dX7_mark_177 (by decide) (fun c15 => ?_) (fun c15 => ?_)
        · rw [if_pos c15] at hF
          obtain rfl := Option.some.inj hF
          subst hwz14
          exact K11 _ _ _ hP hD hS (lv_sub hl [0, 1, 2, 3, 4, 5, 6] rfl)
        · rw [if_neg c15] at hF
          refine lv_aload_n hx hb dX7_mark_180 rfl (lv_at hl 2 rfl) ?_
          obtain ⟨y16, hy16, hF⟩ := bnd_some hF
          have hf9 := wA_in hD hA9 hS
          refine va_calli (va_runV (As := []) (rest := []) ⟨hx, hb, hml, hown, hts⟩ (kX7_references l D ct ad Z G s12.2 H.size a y16 hc hk hy16) (cwV 0 hts gX7_mark_X7_references rfl rfl rfl (by decide +kernel) ⟨Nat.le_of_ble_eq_true rfl, Nat.le_of_ble_eq_true rfl⟩) ⟨fun a U g mk q => by obtain ⟨q0, q1, qP, qK, qD, qZ, qN⟩ := q; exact ⟨q0, q1, qP, va_K.moved (u := U) (U := U.calling g mk a) (Vm.Alike.refl U.vm) qK, qD, sF.moved (u := U) (U := U.calling g mk a) (Vm.Alike.refl U.vm) qZ, nF.same rfl qN⟩, va_recv hK hP (ci := 7) (q0 := a) rfl (wld_o ct ad G s12.2 hc hk (by decide)), fun U hU hW => ⟨rfl, by rw [hU], by rw [hU]; exact hP, va_K.moved hW.alike hK, hD.weaken (fun _ _ _ _ => trivial), by rw [hU]; exact ((hZ.kept hS.2.1).narrow hf9).moved hW.alike, hN.warm hW⟩⟩ rfl rfl hl.1 rfl (lv_room (Nat.le_of_ble_eq_true rfl)) dX7_mark_181 ⟨(Nat.zero_le _), (Nat.zero_le _)⟩) hS (fun q _ h => hf9 q h) hf9 (fun r u t H locs ht hvm hw hB hz1 hk1 hS => ?_)
          obtain ⟨hP, hK9, hD9⟩ := hB
          rw [ht] at hP
          try dsimp only at hw
          subst hw
          have hD := hD9.weaken (fun _ q _ h => hf9 q.1 h)
          refine lv_iconst (v := (1 : Int32)) hx hb dX7_mark_184 (by decide) ?_
          refine lv_iadd hx hb dX7_mark_185 ?_
          obtain ⟨x17, ex17, hF⟩ := ltt_some hF
          refine lv_topi (fun zx17 ezx17 => ?_)
          obtain rfl : x17 = zx17 := ex17.trans ezx17.symm
          refine lv_iload hx hb dX7_mark_186 (lv_at hl 6 rfl) ?_
          refine lv_icmp_le (tgt := 234) hx hb dX7_mark_188 (by decide) (fun c18 => ?_) (fun c18 => ?_)
          · rw [if_pos c18] at hF
            obtain rfl := Option.some.inj hF
            subst hwz14
            exact K11 _ _ _ hP hD hS (lv_sub hl [0, 1, 2, 3, 4, 5, 6] rfl)
          · rw [if_neg c18] at hF
            refine lv_aload_n hx hb dX7_mark_191 rfl (lv_at hl 2 rfl) ?_
            refine lv_aloadq_n hx hb dX7_mark_192 rfl (lv_at hl 3 rfl) ?_
            refine W_st (st' := [.ref (ad b8), .ref (ad a)]) (by rw [va_some ho8]) ?_
            refine va_get (D := D) (ci := 4) (v := .int (y16.1.1 b8 8)) (C := RX4) (T := TX4) (N := 18) hx hb hts (mus hf_X4) hown hK hP b8 (wld_o ct ad G y16.1 hc8 hk8 (by decide)) rfl 8 (by decide) (hts (.fieldLink RX7 92 "VideoSuite$Picture" "frame" "I") (mu mw_1450)) (fun _ h9 => h9) rfl dX7_mark_193 ?_
            obtain ⟨x19, ex19, hF⟩ := ltt_some hF
            refine lv_topi (fun zx19 ezx19 => ?_)
            obtain rfl : x19 = zx19 := ex19.trans ezx19.symm
            refine lv_iload_n hx hb dX7_mark_196 rfl (lv_at hl 5 rfl) ?_
            obtain ⟨y20, hy20, hF⟩ := bnd_some hF
            have hf9 := wA_in hD hA9 hS
            refine va_calle (va_runV (As := [.int x19, .int p2]) (rest := []) ⟨hx, hb, hml, hown, hts⟩ (kX7_leastShort l D ct ad Z G y16.1 H.size a x19 p2 y20 hc hk hy20) (cwV 2 hts gX7_mark_X7_leastShort rfl rfl rfl (by decide +kernel) ⟨Nat.le_of_ble_eq_true rfl, Nat.le_of_ble_eq_true rfl⟩) ⟨fun a U g mk q => by obtain ⟨q0, q1, qP, qK, qD, qZ, qN⟩ := q; exact ⟨q0, q1, qP, va_K.moved (u := U) (U := U.calling g mk a) (Vm.Alike.refl U.vm) qK, qD, sF.moved (u := U) (U := U.calling g mk a) (Vm.Alike.refl U.vm) qZ, nF.same rfl qN⟩, va_recv hK hP (ci := 7) (q0 := a) rfl (wld_o ct ad G y16.1 hc hk (by decide)), fun U hU hW => ⟨rfl, by rw [hU], by rw [hU]; exact hP, va_K.moved hW.alike hK, hD.weaken (fun _ _ _ _ => trivial), by rw [hU]; exact ((hZ.kept hS.2.1).narrow hf9).moved hW.alike, hN.warm hW⟩⟩ rfl rfl hl.1 rfl (lv_room (Nat.le_of_ble_eq_true rfl)) dX7_mark_197 ⟨(Nat.zero_le _), (Nat.zero_le _)⟩) hS (fun q _ h => hf9 q h) hf9 (fun r u t H locs ht hvm hw hB hz1 hk1 hS => ?_)
            obtain ⟨hP, hK9, hD9⟩ := hB
            rw [ht] at hP
            try dsimp only at hw
            subst hw
            have hD := hD9.weaken (fun _ q _ h => hf9 q.1 h)
            refine lv_astoreq (lv' := [(7, va_re ad y20.2), (6, .int s12.1), (5, .int y5.1), (0, .ref (ad a)), (1, va_re ad p0), (2, va_re ad p1), (3, .int p2), (4, .int p3)]) hx hb dX7_mark_200 hl (by decide) rfl (fun ls hl => ?_)
            refine lv_aloadq hx hb dX7_mark_202 (lv_at hl 0 rfl) ?_
            obtain ⟨y21, hy21, hF⟩ := bnd_some hF
            have J21 : ∀ (H : Heap) (locs : List Loc) (ls : Array Slot), va_P D classes (wld ct ad G y21.2) H → va_D A (wld ct ad G y21.2) → va_S A s.heap H locs → lv_has ls 8 [(7, va_re ad y20.2), (6, .int s12.1), (5, .int y5.1), (0, .ref (ad a)), (1, va_re ad p0), (2, va_re ad p1), (3, .int p2), (4, .int p3)] → W p l e (headSpec wuX7_mark ({ frames := 3, cells := 0, slots := 0, locals := 71 })).room s m ([.ref (ad a), va_re ad p0, va_re ad p1, .int p2, .int p3] : List Value).toArray below meth c H locs 0 0 (MQ below (va_Qi (fun (q : Int32) (_ : Unit) => q = y.2) (fun _ t => kE D ct ad G A y.1 t) A) ([.ref (ad a), va_re ad p0, va_re ad p1, .int p2, .int p3] : List Value).toArray s 0 0 A) (F0 m 216 ls [va_re ad y21.1]) := by
              intro H locs ls hP hD hS hl
              refine lv_astoreq (lv' := [(7, va_re ad y21.1), (6, .int s12.1), (5, .int y5.1), (0, .ref (ad a)), (1, va_re ad p0), (2, va_re ad p1), (3, .int p2), (4, .int p3)]) hx hb dX7_mark_216 hl (by decide) rfl (fun ls hl => ?_)
              refine lv_aloadq hx hb dX7_mark_218 (lv_at hl 0 rfl) ?_
              obtain ⟨y22, hy22, hF⟩ := bnd_some hF
              have J22 : ∀ (H : Heap) (locs : List Loc) (ls : Array Slot), va_P D classes (wld ct ad G y22) H → va_D A (wld ct ad G y22) → va_S A s.heap H locs → lv_has ls 8 [(7, va_re ad y21.1), (6, .int s12.1), (5, .int y5.1), (0, .ref (ad a)), (1, va_re ad p0), (2, va_re ad p1), (3, .int p2), (4, .int p3)] → W p l e (headSpec wuX7_mark ({ frames := 3, cells := 0, slots := 0, locals := 71 })).room s m ([.ref (ad a), va_re ad p0, va_re ad p1, .int p2, .int p3] : List Value).toArray below meth c H locs 0 0 (MQ below (va_Qi (fun (q : Int32) (_ : Unit) => q = y.2) (fun _ t => kE D ct ad G A y.1 t) A) ([.ref (ad a), va_re ad p0, va_re ad p1, .int p2, .int p3] : List Value).toArray s 0 0 A) (F0 m 228 ls []) := by
                intro H locs ls hP hD hS hl
                obtain ⟨x23, ex23, hF⟩ := ltt_some hF
                refine lv_iinc (v := x23) (lv' := [(6, .int x23), (7, va_re ad y21.1), (5, .int y5.1), (0, .ref (ad a)), (1, va_re ad p0), (2, va_re ad p1), (3, .int p2), (4, .int p3)]) hx hb dX7_mark_228 hl (k := 1) rfl (by rw [ex23]; rfl) (by decide) rfl (fun ls hl => ?_)
                refine lv_goto (tgt := 173) hx hb dX7_mark_231 (by decide) ?_
                obtain rfl := Option.some.inj hF
                exact hwz14 _ _ _ hP hD hS (lv_sub hl [0, 2, 3, 4, 5, 6, 7] rfl)
              clear hF
              have hF := hy22
              clear hy22
              refine lv_ifnullq (tgt := 228) hx hb dX7_mark_220 (by decide) (fun c24 => ?_) (fun c24 => ?_)
              · rw [if_pos c24] at hF
                obtain rfl := Option.some.inj hF
                exact J22 _ _ _ hP hD hS (lv_sub hl [0, 1, 2, 3, 4, 5, 6, 7] rfl)
              · rw [if_neg c24] at hF
                refine lv_aloadq hx hb dX7_mark_223 (lv_at hl 0 rfl) ?_
                obtain ⟨y25, hy25, hF⟩ := bnd_some hF
                have hf9 := wA_in hD hA9 hS
                refine va_callv (va_runS (As := [va_re ad y21.1]) (rest := []) ⟨hx, hb, hml, hown, hts⟩ (kX7_release l D ct ad Z G y21.2 H.size y21.1 y25 hy25) (va_cwS 1 hts gX7_mark_X7_release rfl rfl rfl (by decide +kernel) ⟨Nat.le_of_ble_eq_true rfl, Nat.le_of_ble_eq_true rfl⟩) ⟨fun a U g mk q => by obtain ⟨q0, q1, qP, qK, qD, qZ, qN⟩ := q; exact ⟨q0, q1, qP, va_K.moved (u := U) (U := U.calling g mk a) (Vm.Alike.refl U.vm) qK, qD, sF.moved (u := U) (U := U.calling g mk a) (Vm.Alike.refl U.vm) qZ, nF.same rfl qN⟩, fun U hU hW => ⟨rfl, by rw [hU], by rw [hU]; exact hP, va_K.moved hW.alike hK, hD.weaken (fun _ _ _ _ => trivial), by rw [hU]; exact ((hZ.kept hS.2.1).narrow hf9).moved hW.alike, hN.warm hW⟩⟩ rfl rfl hl.1 rfl (lv_room (Nat.le_of_ble_eq_true rfl)) dX7_mark_225 ⟨(Nat.zero_le _), (Nat.zero_le _)⟩) hS (fun q _ h => hf9 q h) hf9 (fun u t H locs ht hvm hw hB hz1 hk1 hS => ?_)
                obtain ⟨hP, hK9, hD9⟩ := hB
                rw [ht] at hP
                have hD := hD9.weaken (fun _ q _ h => hf9 q.1 h)
                obtain rfl := Option.some.inj hF
                exact J22 _ _ _ hP hD hS (lv_sub hl [0, 1, 2, 3, 4, 5, 6, 7] rfl)
            clear hF
            have hF := hy21
            clear hy21
            refine lv_ifnonnullq (tgt := 214) hx hb dX7_mark_204 (by decide) (fun c26 => ?_) (fun c26 => ?_)
            · rw [if_neg c26] at hF
              refine lv_aloadq hx hb dX7_mark_214 (lv_at hl 0 rfl) ?_
              obtain rfl := Option.some.inj hF
              exact J21 _ _ _ hP hD hS (lv_sub hl [0, 1, 2, 3, 4, 5, 6, 7] rfl)
            · rw [if_pos c26] at hF
              refine lv_aload_n hx hb dX7_mark_207 rfl (lv_at hl 3 rfl) ?_
              obtain ⟨y27, hy27, hF⟩ := bnd_some hF
              have hf9 := wA_in hD hA9 hS
              refine va_calle (va_runV (As := []) (rest := []) ⟨hx, hb, hml, hown, hts⟩ (kX7_leastLong l D ct ad Z G y20.1 H.size a y27 hc hk hy27) (cwV 0 hts gX7_mark_X7_leastLong rfl rfl rfl (by decide +kernel) ⟨Nat.le_of_ble_eq_true rfl, Nat.le_of_ble_eq_true rfl⟩) ⟨fun a U g mk q => by obtain ⟨q0, q1, qP, qK, qD, qZ, qN⟩ := q; exact ⟨q0, q1, qP, va_K.moved (u := U) (U := U.calling g mk a) (Vm.Alike.refl U.vm) qK, qD, sF.moved (u := U) (U := U.calling g mk a) (Vm.Alike.refl U.vm) qZ, nF.same rfl qN⟩, va_recv hK hP (ci := 7) (q0 := a) rfl (wld_o ct ad G y20.1 hc hk (by decide)), fun U hU hW => ⟨rfl, by rw [hU], by rw [hU]; exact hP, va_K.moved hW.alike hK, hD.weaken (fun _ _ _ _ => trivial), by rw [hU]; exact ((hZ.kept hS.2.1).narrow hf9).moved hW.alike, hN.warm hW⟩⟩ rfl rfl hl.1 rfl (lv_room (Nat.le_of_ble_eq_true rfl)) dX7_mark_208 ⟨(Nat.zero_le _), (Nat.zero_le _)⟩) hS (fun q _ h => hf9 q h) hf9 (fun r u t H locs ht hvm hw hB hz1 hk1 hS => ?_)
              obtain ⟨hP, hK9, hD9⟩ := hB
              rw [ht] at hP
              try dsimp only at hw
              subst hw
              have hD := hD9.weaken (fun _ q _ h => hf9 q.1 h)
              refine lv_goto (tgt := 216) hx hb dX7_mark_211 (by decide) ?_
              obtain rfl := Option.some.inj hF
              exact J21 _ _ _ hP hD hS (lv_sub hl [0, 1, 2, 3, 4, 5, 6, 7] rfl)
      clear hF
      have hF := hy10
      clear hy10
      refine lv_icmp_eq (tgt := 170) hx hb dX7_mark_162 (by decide) (fun c28 => ?_) (fun c28 => ?_)
      · rw [if_pos c28] at hF
        obtain rfl := Option.some.inj hF
        exact J10 _ _ _ hP hD hS (lv_sub hl [0, 1, 2, 3, 4, 5, 6] rfl)
      · rw [if_neg c28] at hF
        refine lv_aloadq_n hx hb dX7_mark_165 rfl (lv_at hl 3 rfl) ?_
        refine lv_iconst (v := (1 : Int32)) hx hb dX7_mark_166 (by decide) ?_
        refine W_st (st' := [.int (1 : Int32), .ref (ad b8)]) (by rw [va_some ho8]) ?_
        refine va_put (D := D) (ci := 4) (v := .int (1 : Int32)) (ty := .int) (C := RX4) (T := TX4) (N := 18) hx hb hts (mus hf_X4) tyX4 tyX4_ok nmX4 hown hK hP hD hS b8 (wld_o ct ad G y5.2 hc8 hk8 (by decide)) rfl 10 (by decide) (hts (.fieldLink RX7 123 "VideoSuite$Picture" "use" "I") (mu mw_1460)) (fun _ h9 => h9) rfl (by decide +kernel) rfl rfl (Nat.le_of_ble_eq_true rfl) dX7_mark_167 (fun H locs hP hD hS => ?_)
        obtain ⟨M29, eM29, hF⟩ := ltt_some hF
        rw [set_oI ct ad G y5.2 hc8 hk8 (by decide) (by rfl), ← eM29] at hP hD
        obtain rfl := Option.some.inj hF
        exact J10 _ _ _ hP hD hS (lv_sub hl [0, 1, 2, 3, 4, 5, 6] rfl)
    clear hF
    refine itr_rule (fun (s6 : Int32 × DD) => ∀ (H : Heap) (locs : List Loc) (ls : Array Slot), va_P D classes (wld ct ad G s6.2) H → va_D A (wld ct ad G s6.2) → va_S A s.heap H locs → lv_has ls 8 [(6, .int (0 : Int32)), (5, .int s6.1), (0, .ref (ad a)), (1, va_re ad p0), (2, va_re ad p1), (3, .int p2), (4, .int p3)] → W p l e (headSpec wuX7_mark ({ frames := 3, cells := 0, slots := 0, locals := 71 })).room s m ([.ref (ad a), va_re ad p0, va_re ad p1, .int p2, .int p3] : List Value).toArray below meth c H locs 0 0 (MQ below (va_Qi (fun (q : Int32) (_ : Unit) => q = y.2) (fun _ t => kE D ct ad G A y.1 t) A) ([.ref (ad a), va_re ad p0, va_re ad p1, .int p2, .int p3] : List Value).toArray s 0 0 A) (F0 m 73 ls [])) ?_ _ _ hy5 _ _ _ hP hD hS (lv_sub hl [0, 1, 2, 3, 4, 5, 6] rfl)
    rintro s6 ⟨z30, hF, hwz30⟩ H locs ls hP hD hS hl
    try dsimp only at hF
    refine lv_iload hx hb dX7_mark_73 (lv_at hl 0 rfl) ?_
    refine lv_aloadq_n hx hb dX7_mark_75 rfl (lv_at hl 4 rfl) ?_
    refine W_st (st' := [.ref (ad b2), .int (0 : Int32)]) (by rw [va_some ho2]) ?_
    refine va_get (D := D) (ci := 3) (v := va_re ad (s6.2.2 b2 0)) (C := RX3) (T := TX3) (N := 4) hx hb hts (mus hf_X3) hown hK hP b2 (wld_o ct ad G s6.2 hc2 hk2 (by decide)) rfl 0 (by decide) (hts (.fieldLink RX7 73 "VideoSuite$Header" "v" "[I") (mu mw_616)) (fun _ h9 => h9) rfl dX7_mark_76 ?_
    refine lv_bipush (v := (24 : Int32)) hx hb dX7_mark_79 (by decide) ?_
    obtain ⟨b31, ho31, hc31, hk31, hF⟩ := dr_some hF
    refine W_st (st' := [.int (24 : Int32), .ref (ad b31), .int (0 : Int32)]) (by rw [va_some ho31]) ?_
    obtain ⟨hvc, hF⟩ := chk_some hF
    refine va_iald hx hb hK hP b31 1 (wld_i ct ad G s6.2 hc31 hk31) rfl hvc dX7_mark_81 ?_
    obtain ⟨x32, ex32, hF⟩ := ltt_some hF
    refine lv_topi (fun zx32 ezx32 => ?_)
    obtain rfl : x32 = zx32 := ex32.trans ezx32.symm
    refine lv_icmp_ge (tgt := 157) hx hb dX7_mark_82 (by decide) (fun c33 => ?_) (fun c33 => ?_)
    · rw [if_pos c33] at hF
      obtain rfl := Option.some.inj hF
      subst hwz30
      exact K5 _ _ _ hP hD hS (lv_sub hl [0, 1, 2, 3, 4, 5, 6] rfl)
    · rw [if_neg c33] at hF
      refine lv_aloadq_n hx hb dX7_mark_85 rfl (lv_at hl 4 rfl) ?_
      refine W_st (st' := [.ref (ad b2)]) (by rw [va_some ho2]) ?_
      obtain ⟨y34, hy34, hF⟩ := bnd_some hF
      have hf9 := wA_in hD hA9 hS
      refine va_calli (va_runV (As := []) (rest := []) ⟨hx, hb, hml, hown, hts⟩ (kX3_isOwn l D ct ad Z G s6.2 H.size b2 y34 hc2 hk2 hy34) (cwV 0 hts gX7_mark_X3_isOwn rfl rfl rfl (by decide +kernel) ⟨Nat.le_of_ble_eq_true rfl, Nat.le_of_ble_eq_true rfl⟩) ⟨fun a U g mk q => by obtain ⟨q0, q1, qP, qK, qD, qZ, qN⟩ := q; exact ⟨q0, q1, qP, va_K.moved (u := U) (U := U.calling g mk a) (Vm.Alike.refl U.vm) qK, qD, sF.moved (u := U) (U := U.calling g mk a) (Vm.Alike.refl U.vm) qZ, nF.same rfl qN⟩, va_recv hK hP (ci := 3) (q0 := b2) rfl (wld_o ct ad G s6.2 hc2 hk2 (by decide)), fun U hU hW => ⟨rfl, by rw [hU], by rw [hU]; exact hP, va_K.moved hW.alike hK, hD.weaken (fun _ _ _ _ => trivial), by rw [hU]; exact ((hZ.kept hS.2.1).narrow hf9).moved hW.alike, hN.warm hW⟩⟩ rfl rfl hl.1 rfl (lv_room (Nat.le_of_ble_eq_true rfl)) dX7_mark_86 ⟨(Nat.zero_le _), (Nat.zero_le _)⟩) hS (fun q _ h => hf9 q h) hf9 (fun r u t H locs ht hvm hw hB hz1 hk1 hS => ?_)
      obtain ⟨hP, hK9, hD9⟩ := hB
      rw [ht] at hP
      try dsimp only at hw
      subst hw
      have hD := hD9.weaken (fun _ q _ h => hf9 q.1 h)
      refine lv_if_ne (tgt := 157) hx hb dX7_mark_89 (by decide) (fun c35 => ?_) (fun c35 => ?_)
      · rw [if_neg c35] at hF
        obtain rfl := Option.some.inj hF
        subst hwz30
        exact K5 _ _ _ hP hD hS (lv_sub hl [0, 1, 2, 3, 4, 5, 6] rfl)
      · rw [if_pos c35] at hF
        refine lv_aloadq_n hx hb dX7_mark_92 rfl (lv_at hl 4 rfl) ?_
        refine W_st (st' := [.ref (ad b2)]) (by rw [va_some ho2]) ?_
        refine va_get (D := D) (ci := 3) (v := va_re ad (y34.1.2 b2 2)) (C := RX3) (T := TX3) (N := 4) hx hb hts (mus hf_X3) hown hK hP b2 (wld_o ct ad G y34.1 hc2 hk2 (by decide)) rfl 2 (by decide) (hts (.fieldLink RX7 185 "VideoSuite$Header" "op" "[I") (mu mw_626)) (fun _ h9 => h9) rfl dX7_mark_93 ?_
        refine lv_iconst (v := (3 : Int32)) hx hb dX7_mark_96 (by decide) ?_
        refine lv_iload hx hb dX7_mark_97 (lv_at hl 0 rfl) ?_
        refine lv_imul hx hb dX7_mark_99 ?_
        obtain ⟨x36, ex36, hF⟩ := ltt_some hF
        refine lv_topi (fun zx36 ezx36 => ?_)
        obtain rfl : x36 = zx36 := ex36.trans ezx36.symm
        obtain ⟨b37, ho37, hc37, hk37, hF⟩ := dr_some hF
        refine W_st (st' := [.int x36, .ref (ad b37)]) (by rw [va_some ho37]) ?_
        obtain ⟨hvc, hF⟩ := chk_some hF
        refine va_iald hx hb hK hP b37 1 (wld_i ct ad G y34.1 hc37 hk37) rfl hvc dX7_mark_100 ?_
        obtain ⟨x38, ex38, hF⟩ := ltt_some hF
        refine lv_topi (fun zx38 ezx38 => ?_)
        obtain rfl : x38 = zx38 := ex38.trans ezx38.symm
        refine lv_istore (lv' := [(7, .int x38), (6, .int (0 : Int32)), (5, .int s6.1), (0, .ref (ad a)), (1, va_re ad p0), (2, va_re ad p1), (3, .int p2), (4, .int p3)]) hx hb dX7_mark_101 hl (by decide) rfl (fun ls hl => ?_)
        refine lv_iload hx hb dX7_mark_103 (lv_at hl 2 rfl) ?_
        obtain ⟨y39, hy39, hF⟩ := bnd_some hF
        have J39 : ∀ (H : Heap) (locs : List Loc) (ls : Array Slot), va_P D classes (wld ct ad G y34.1) H → va_D A (wld ct ad G y34.1) → va_S A s.heap H locs → lv_has ls 8 [(7, .int x38), (6, .int (0 : Int32)), (5, .int s6.1), (0, .ref (ad a)), (1, va_re ad p0), (2, va_re ad p1), (3, .int p2), (4, .int p3)] → W p l e (headSpec wuX7_mark ({ frames := 3, cells := 0, slots := 0, locals := 71 })).room s m ([.ref (ad a), va_re ad p0, va_re ad p1, .int p2, .int p3] : List Value).toArray below meth c H locs 0 0 (MQ below (va_Qi (fun (q : Int32) (_ : Unit) => q = y.2) (fun _ t => kE D ct ad G A y.1 t) A) ([.ref (ad a), va_re ad p0, va_re ad p1, .int p2, .int p3] : List Value).toArray s 0 0 A) (F0 m 119 ls [.int y39]) := by
          intro H locs ls hP hD hS hl
          refine lv_istore (lv' := [(5, .int y39), (7, .int x38), (6, .int (0 : Int32)), (0, .ref (ad a)), (1, va_re ad p0), (2, va_re ad p1), (3, .int p2), (4, .int p3)]) hx hb dX7_mark_119 hl (by decide) rfl (fun ls hl => ?_)
          refine lv_aload_n hx hb dX7_mark_121 rfl (lv_at hl 3 rfl) ?_
          refine lv_aloadq_n hx hb dX7_mark_122 rfl (lv_at hl 4 rfl) ?_
          refine lv_iload hx hb dX7_mark_123 (lv_at hl 1 rfl) ?_
          refine lv_aloadq_n hx hb dX7_mark_125 rfl (lv_at hl 5 rfl) ?_
          refine W_st (st' := [.ref (ad b2), .int x38, va_re ad p0, .ref (ad a)]) (by rw [va_some ho2]) ?_
          refine va_get (D := D) (ci := 3) (v := va_re ad (y34.1.2 b2 2)) (C := RX3) (T := TX3) (N := 4) hx hb hts (mus hf_X3) hown hK hP b2 (wld_o ct ad G y34.1 hc2 hk2 (by decide)) rfl 2 (by decide) (hts (.fieldLink RX7 185 "VideoSuite$Header" "op" "[I") (mu mw_626)) (fun _ h9 => h9) rfl dX7_mark_126 ?_
          refine lv_iconst (v := (3 : Int32)) hx hb dX7_mark_129 (by decide) ?_
          refine lv_iload hx hb dX7_mark_130 (lv_at hl 2 rfl) ?_
          refine lv_imul hx hb dX7_mark_132 ?_
          obtain ⟨x40, ex40, hF⟩ := ltt_some hF
          refine lv_topi (fun zx40 ezx40 => ?_)
          obtain rfl : x40 = zx40 := ex40.trans ezx40.symm
          refine lv_iconst (v := (1 : Int32)) hx hb dX7_mark_133 (by decide) ?_
          refine lv_iadd hx hb dX7_mark_134 ?_
          obtain ⟨x41, ex41, hF⟩ := ltt_some hF
          refine lv_topi (fun zx41 ezx41 => ?_)
          obtain rfl : x41 = zx41 := ex41.trans ezx41.symm
          refine W_st (st' := [.int x41, .ref (ad b37), .int x38, va_re ad p0, .ref (ad a)]) (by rw [va_some ho37]) ?_
          obtain ⟨hvc, hF⟩ := chk_some hF
          refine va_iald hx hb hK hP b37 1 (wld_i ct ad G y34.1 hc37 hk37) rfl hvc dX7_mark_135 ?_
          obtain ⟨x42, ex42, hF⟩ := ltt_some hF
          refine lv_topi (fun zx42 ezx42 => ?_)
          obtain rfl : x42 = zx42 := ex42.trans ezx42.symm
          refine lv_aloadq_n hx hb dX7_mark_136 rfl (lv_at hl 5 rfl) ?_
          refine W_st (st' := [.ref (ad b2), .int x42, .int x38, va_re ad p0, .ref (ad a)]) (by rw [va_some ho2]) ?_
          refine va_get (D := D) (ci := 3) (v := va_re ad (y34.1.2 b2 2)) (C := RX3) (T := TX3) (N := 4) hx hb hts (mus hf_X3) hown hK hP b2 (wld_o ct ad G y34.1 hc2 hk2 (by decide)) rfl 2 (by decide) (hts (.fieldLink RX7 185 "VideoSuite$Header" "op" "[I") (mu mw_626)) (fun _ h9 => h9) rfl dX7_mark_137 ?_
          refine lv_iconst (v := (3 : Int32)) hx hb dX7_mark_140 (by decide) ?_
          refine lv_iload hx hb dX7_mark_141 (lv_at hl 2 rfl) ?_
          refine lv_imul hx hb dX7_mark_143 ?_
          obtain ⟨x43, ex43, hF⟩ := ltt_some hF
          refine lv_topi (fun zx43 ezx43 => ?_)
          obtain rfl : x43 = zx43 := ex43.trans ezx43.symm
          refine lv_iconst (v := (2 : Int32)) hx hb dX7_mark_144 (by decide) ?_
          refine lv_iadd hx hb dX7_mark_145 ?_
          obtain ⟨x44, ex44, hF⟩ := ltt_some hF
          refine lv_topi (fun zx44 ezx44 => ?_)
          obtain rfl : x44 = zx44 := ex44.trans ezx44.symm
          refine W_st (st' := [.int x44, .ref (ad b37), .int x42, .int x38, va_re ad p0, .ref (ad a)]) (by rw [va_some ho37]) ?_
          obtain ⟨hvc, hF⟩ := chk_some hF
          refine va_iald hx hb hK hP b37 1 (wld_i ct ad G y34.1 hc37 hk37) rfl hvc dX7_mark_146 ?_
          obtain ⟨x45, ex45, hF⟩ := ltt_some hF
          refine lv_topi (fun zx45 ezx45 => ?_)
          obtain rfl : x45 = zx45 := ex45.trans ezx45.symm
          refine lv_iload_n hx hb dX7_mark_147 rfl (lv_at hl 6 rfl) ?_
          cases hF
        clear hF
        have hF := hy39
        clear hy39
        refine lv_if_ne (tgt := 114) hx hb dX7_mark_105 (by decide) (fun c46 => ?_) (fun c46 => ?_)
        · rw [if_neg c46] at hF
          refine lv_iconst (v := (1 : Int32)) hx hb dX7_mark_114 (by decide) ?_
          refine lv_goto (tgt := 119) hx hb dX7_mark_115 (by decide) ?_
          obtain rfl := Option.some.inj hF
          exact J39 _ _ _ hP hD hS (lv_sub hl [0, 1, 2, 3, 4, 5, 6, 7] rfl)
        · rw [if_pos c46] at hF
          refine lv_iload hx hb dX7_mark_108 (lv_at hl 0 rfl) ?_
          refine lv_iconst (v := (5 : Int32)) hx hb dX7_mark_110 (by decide) ?_
          obtain ⟨y47, hy47, hF⟩ := bnd_some hF
          have J47 : ∀ (H : Heap) (locs : List Loc) (ls : Array Slot), va_P D classes (wld ct ad G y34.1) H → va_D A (wld ct ad G y34.1) → va_S A s.heap H locs → lv_has ls 8 [(7, .int x38), (6, .int (0 : Int32)), (5, .int s6.1), (0, .ref (ad a)), (1, va_re ad p0), (2, va_re ad p1), (3, .int p2), (4, .int p3)] → W p l e (headSpec wuX7_mark ({ frames := 3, cells := 0, slots := 0, locals := 71 })).room s m ([.ref (ad a), va_re ad p0, va_re ad p1, .int p2, .int p3] : List Value).toArray below meth c H locs 0 0 (MQ below (va_Qi (fun (q : Int32) (_ : Unit) => q = y.2) (fun _ t => kE D ct ad G A y.1 t) A) ([.ref (ad a), va_re ad p0, va_re ad p1, .int p2, .int p3] : List Value).toArray s 0 0 A) (F0 m 119 ls [.int y47]) := by
            intro H locs ls hP hD hS hl
            obtain rfl := Option.some.inj hF
            exact J39 _ _ _ hP hD hS (lv_sub hl [0, 1, 2, 3, 4, 5, 6, 7] rfl)
          clear hF
          have hF := hy47
          clear hy47
          refine lv_icmp_ne (tgt := 118) hx hb dX7_mark_111 (by decide) (fun c48 => ?_) (fun c48 => ?_)
          · rw [if_neg c48] at hF
            refine lv_iconst (v := (0 : Int32)) hx hb dX7_mark_118 (by decide) ?_
            obtain rfl := Option.some.inj hF
            exact J47 _ _ _ hP hD hS (lv_sub hl [0, 1, 2, 3, 4, 5, 6, 7] rfl)
          · rw [if_pos c48] at hF
            refine lv_iconst (v := (1 : Int32)) hx hb dX7_mark_114 (by decide) ?_
            refine lv_goto (tgt := 119) hx hb dX7_mark_115 (by decide) ?_
            obtain rfl := Option.some.inj hF
            exact J47 _ _ _ hP hD hS (lv_sub hl [0, 1, 2, 3, 4, 5, 6, 7] rfl)
  clear hF
  have hF := hy4
  clear hy4
  refine lv_if_eq (tgt := 49) hx hb dX7_mark_7 (by decide) (fun c49 => ?_) (fun c49 => ?_)
  · rw [if_pos c49] at hF
    refine lv_aloadq_n hx hb dX7_mark_49 rfl (lv_at hl 3 rfl) ?_
    refine W_st (st' := [.ref (ad b2)]) (by rw [va_some ho2]) ?_
    refine va_get (D := D) (ci := 3) (v := va_re ad (y3.1.2 b2 0)) (C := RX3) (T := TX3) (N := 4) hx hb hts (mus hf_X3) hown hK hP b2 (wld_o ct ad G y3.1 hc2 hk2 (by decide)) rfl 0 (by decide) (hts (.fieldLink RX7 73 "VideoSuite$Header" "v" "[I") (mu mw_616)) (fun _ h9 => h9) rfl dX7_mark_50 ?_
    refine lv_bipush (v := (24 : Int32)) hx hb dX7_mark_53 (by decide) ?_
    obtain ⟨b50, ho50, hc50, hk50, hF⟩ := dr_some hF
    refine W_st (st' := [.int (24 : Int32), .ref (ad b50)]) (by rw [va_some ho50]) ?_
    obtain ⟨hvc, hF⟩ := chk_some hF
    refine va_iald hx hb hK hP b50 1 (wld_i ct ad G y3.1 hc50 hk50) rfl hvc dX7_mark_55 ?_
    obtain ⟨x51, ex51, hF⟩ := ltt_some hF
    refine lv_topi (fun zx51 ezx51 => ?_)
    obtain rfl : x51 = zx51 := ex51.trans ezx51.symm
    obtain ⟨y52, hy52, hF⟩ := bnd_some hF
    have J52 : ∀ (H : Heap) (locs : List Loc) (ls : Array Slot), va_P D classes (wld ct ad G y52) H → va_D A (wld ct ad G y52) → va_S A s.heap H locs → lv_has ls 8 [(5, .int (0 : Int32)), (0, .ref (ad a)), (1, va_re ad p0), (2, va_re ad p1), (3, .int p2), (4, .int p3)] → W p l e (headSpec wuX7_mark ({ frames := 3, cells := 0, slots := 0, locals := 71 })).room s m ([.ref (ad a), va_re ad p0, va_re ad p1, .int p2, .int p3] : List Value).toArray below meth c H locs 0 0 (MQ below (va_Qi (fun (q : Int32) (_ : Unit) => q = y.2) (fun _ t => kE D ct ad G A y.1 t) A) ([.ref (ad a), va_re ad p0, va_re ad p1, .int p2, .int p3] : List Value).toArray s 0 0 A) (F0 m 70 ls []) := by
      intro H locs ls hP hD hS hl
      obtain rfl := Option.some.inj hF
      exact J4 _ _ _ hP hD hS (lv_sub hl [0, 1, 2, 3, 4, 5] rfl)
    clear hF
    have hF := hy52
    clear hy52
    refine lv_if_ne (tgt := 70) hx hb dX7_mark_56 (by decide) (fun c53 => ?_) (fun c53 => ?_)
    · rw [if_neg c53] at hF
      obtain rfl := Option.some.inj hF
      exact J52 _ _ _ hP hD hS (lv_sub hl [0, 1, 2, 3, 4, 5] rfl)
    · rw [if_pos c53] at hF
      refine lv_aload_n hx hb dX7_mark_59 rfl (lv_at hl 1 rfl) ?_
      refine lv_aloadq_n hx hb dX7_mark_60 rfl (lv_at hl 2 rfl) ?_
      obtain ⟨b54, ho54, hc54, hk54, hF⟩ := dr_some hF
      refine W_st (st' := [.ref (ad b54), .ref (ad a)]) (by rw [va_some ho54]) ?_
      refine va_get (D := D) (ci := 4) (v := .int (y3.1.1 b54 8)) (C := RX4) (T := TX4) (N := 18) hx hb hts (mus hf_X4) hown hK hP b54 (wld_o ct ad G y3.1 hc54 hk54 (by decide)) rfl 8 (by decide) (hts (.fieldLink RX7 92 "VideoSuite$Picture" "frame" "I") (mu mw_1450)) (fun _ h9 => h9) rfl dX7_mark_61 ?_
      obtain ⟨x55, ex55, hF⟩ := ltt_some hF
      refine lv_topi (fun zx55 ezx55 => ?_)
      obtain rfl : x55 = zx55 := ex55.trans ezx55.symm
      refine lv_iload_n hx hb dX7_mark_64 rfl (lv_at hl 4 rfl) ?_
      refine lv_iload hx hb dX7_mark_65 (lv_at hl 5 rfl) ?_
      obtain ⟨y56, hy56, hF⟩ := bnd_some hF
      have hf9 := wA_in hD hA9 hS
      refine va_callv (va_runV (As := [.int x55, .int p2, .int p3]) (rest := []) ⟨hx, hb, hml, hown, hts⟩ (kX7_slide l D ct ad Z G y3.1 H.size a x55 p2 p3 y56 hc hk hy56) (cwV 3 hts gX7_mark_X7_slide rfl rfl rfl (by decide +kernel) ⟨Nat.le_of_ble_eq_true rfl, Nat.le_of_ble_eq_true rfl⟩) ⟨fun a U g mk q => by obtain ⟨q0, q1, qP, qK, qD, qZ, qN⟩ := q; exact ⟨q0, q1, qP, va_K.moved (u := U) (U := U.calling g mk a) (Vm.Alike.refl U.vm) qK, qD, sF.moved (u := U) (U := U.calling g mk a) (Vm.Alike.refl U.vm) qZ, nF.same rfl qN⟩, va_recv hK hP (ci := 7) (q0 := a) rfl (wld_o ct ad G y3.1 hc hk (by decide)), fun U hU hW => ⟨rfl, by rw [hU], by rw [hU]; exact hP, va_K.moved hW.alike hK, hD.weaken (fun _ _ _ _ => trivial), by rw [hU]; exact ((hZ.kept hS.2.1).narrow hf9).moved hW.alike, hN.warm hW⟩⟩ rfl rfl hl.1 rfl (lv_room (Nat.le_of_ble_eq_true rfl)) dX7_mark_67 ⟨(Nat.zero_le _), (Nat.zero_le _)⟩) hS (fun q _ h => hf9 q h) hf9 (fun u t H locs ht hvm hw hB hz1 hk1 hS => ?_)
      obtain ⟨hP, hK9, hD9⟩ := hB
      rw [ht] at hP
      have hD := hD9.weaken (fun _ q _ h => hf9 q.1 h)
      obtain rfl := Option.some.inj hF
      exact J52 _ _ _ hP hD hS (lv_sub hl [0, 1, 2, 3, 4, 5] rfl)
  · rw [if_neg c49] at hF
    refine lv_aload_n hx hb dX7_mark_10 rfl (lv_at hl 1 rfl) ?_
    obtain ⟨y57, hy57, hF⟩ := bnd_some hF
    have hf9 := wA_in hD hA9 hS
    refine va_callv (va_runV (As := []) (rest := []) ⟨hx, hb, hml, hown, hts⟩ (kX7_releaseAll l D ct ad Z G y3.1 H.size a y57 hc hk hy57) (cwV 0 hts gX7_mark_X7_releaseAll rfl rfl rfl (by decide +kernel) ⟨Nat.le_of_ble_eq_true rfl, Nat.le_of_ble_eq_true rfl⟩) ⟨fun a U g mk q => by obtain ⟨q0, q1, qP, qK, qD, qZ, qN⟩ := q; exact ⟨q0, q1, qP, va_K.moved (u := U) (U := U.calling g mk a) (Vm.Alike.refl U.vm) qK, qD, sF.moved (u := U) (U := U.calling g mk a) (Vm.Alike.refl U.vm) qZ, nF.same rfl qN⟩, va_recv hK hP (ci := 7) (q0 := a) rfl (wld_o ct ad G y3.1 hc hk (by decide)), fun U hU hW => ⟨rfl, by rw [hU], by rw [hU]; exact hP, va_K.moved hW.alike hK, hD.weaken (fun _ _ _ _ => trivial), by rw [hU]; exact ((hZ.kept hS.2.1).narrow hf9).moved hW.alike, hN.warm hW⟩⟩ rfl rfl hl.1 rfl (lv_room (Nat.le_of_ble_eq_true rfl)) dX7_mark_11 ⟨(Nat.zero_le _), (Nat.zero_le _)⟩) hS (fun q _ h => hf9 q h) hf9 (fun u t H locs ht hvm hw hB hz1 hk1 hS => ?_)
    obtain ⟨hP, hK9, hD9⟩ := hB
    rw [ht] at hP
    have hD := hD9.weaken (fun _ q _ h => hf9 q.1 h)
    refine lv_aload_n hx hb dX7_mark_14 rfl (lv_at hl 1 rfl) ?_
    refine lv_aloadq_n hx hb dX7_mark_15 rfl (lv_at hl 3 rfl) ?_
    refine W_st (st' := [.ref (ad b2), .ref (ad a)]) (by rw [va_some ho2]) ?_
    refine va_get (D := D) (ci := 3) (v := va_re ad (y57.2 b2 0)) (C := RX3) (T := TX3) (N := 4) hx hb hts (mus hf_X3) hown hK hP b2 (wld_o ct ad G y57 hc2 hk2 (by decide)) rfl 0 (by decide) (hts (.fieldLink RX7 73 "VideoSuite$Header" "v" "[I") (mu mw_616)) (fun _ h9 => h9) rfl dX7_mark_16 ?_
    refine lv_bipush (v := (20 : Int32)) hx hb dX7_mark_19 (by decide) ?_
    obtain ⟨b58, ho58, hc58, hk58, hF⟩ := dr_some hF
    refine W_st (st' := [.int (20 : Int32), .ref (ad b58), .ref (ad a)]) (by rw [va_some ho58]) ?_
    obtain ⟨hvc, hF⟩ := chk_some hF
    refine va_iald hx hb hK hP b58 1 (wld_i ct ad G y57 hc58 hk58) rfl hvc dX7_mark_21 ?_
    obtain ⟨x59, ex59, hF⟩ := ltt_some hF
    refine lv_topi (fun zx59 ezx59 => ?_)
    obtain rfl : x59 = zx59 := ex59.trans ezx59.symm
    refine va_put (D := D) (ci := 7) (v := .int x59) (ty := .int) (C := RX7) (T := TX7) (N := 17) hx hb hts (mus hf_X7) tyX7 tyX7_ok nmX7 hown hK hP hD hS a (wld_o ct ad G y57 hc hk (by decide)) rfl 4 (by decide) (hts (.fieldLink RX7 33 "VideoSuite$Store" "longNumbers" "I") (mu mw_360)) (fun _ h9 => h9) rfl (by decide +kernel) rfl rfl (Nat.le_of_ble_eq_true rfl) dX7_mark_22 (fun H locs hP hD hS => ?_)
    obtain ⟨M60, eM60, hF⟩ := ltt_some hF
    rw [set_oI ct ad G y57 hc hk (by decide) (by rfl), ← eM60] at hP hD
    refine lv_aloadq_n hx hb dX7_mark_25 rfl (lv_at hl 3 rfl) ?_
    refine W_st (st' := [.ref (ad b2)]) (by rw [va_some ho2]) ?_
    refine va_get (D := D) (ci := 3) (v := va_re ad (M60.2 b2 0)) (C := RX3) (T := TX3) (N := 4) hx hb hts (mus hf_X3) hown hK hP b2 (wld_o ct ad G M60 hc2 hk2 (by decide)) rfl 0 (by decide) (hts (.fieldLink RX7 73 "VideoSuite$Header" "v" "[I") (mu mw_616)) (fun _ h9 => h9) rfl dX7_mark_26 ?_
    refine lv_bipush (v := (20 : Int32)) hx hb dX7_mark_29 (by decide) ?_
    obtain ⟨b61, ho61, hc61, hk61, hF⟩ := dr_some hF
    refine W_st (st' := [.int (20 : Int32), .ref (ad b61)]) (by rw [va_some ho61]) ?_
    obtain ⟨hvc, hF⟩ := chk_some hF
    refine va_iald hx hb hK hP b61 1 (wld_i ct ad G M60 hc61 hk61) rfl hvc dX7_mark_31 ?_
    obtain ⟨x62, ex62, hF⟩ := ltt_some hF
    refine lv_topi (fun zx62 ezx62 => ?_)
    obtain rfl : x62 = zx62 := ex62.trans ezx62.symm
    refine lv_iconst (v := (1 : Int32)) hx hb dX7_mark_32 (by decide) ?_
    obtain ⟨y63, hy63, hF⟩ := bnd_some hF
    have J63 : ∀ (H : Heap) (locs : List Loc) (ls : Array Slot), va_P D classes (wld ct ad G y63) H → va_D A (wld ct ad G y63) → va_S A s.heap H locs → lv_has ls 8 [(5, .int (0 : Int32)), (0, .ref (ad a)), (1, va_re ad p0), (2, va_re ad p1), (3, .int p2), (4, .int p3)] → W p l e (headSpec wuX7_mark ({ frames := 3, cells := 0, slots := 0, locals := 71 })).room s m ([.ref (ad a), va_re ad p0, va_re ad p1, .int p2, .int p3] : List Value).toArray below meth c H locs 0 0 (MQ below (va_Qi (fun (q : Int32) (_ : Unit) => q = y.2) (fun _ t => kE D ct ad G A y.1 t) A) ([.ref (ad a), va_re ad p0, va_re ad p1, .int p2, .int p3] : List Value).toArray s 0 0 A) (F0 m 70 ls []) := by
      intro H locs ls hP hD hS hl
      obtain rfl := Option.some.inj hF
      exact J4 _ _ _ hP hD hS (lv_sub hl [0, 1, 2, 3, 4, 5] rfl)
    clear hF
    have hF := hy63
    clear hy63
    refine lv_icmp_ne (tgt := 70) hx hb dX7_mark_33 (by decide) (fun c64 => ?_) (fun c64 => ?_)
    · rw [if_neg c64] at hF
      obtain rfl := Option.some.inj hF
      exact J63 _ _ _ hP hD hS (lv_sub hl [0, 1, 2, 3, 4, 5] rfl)
    · rw [if_pos c64] at hF
      refine lv_aloadq_n hx hb dX7_mark_36 rfl (lv_at hl 2 rfl) ?_
      refine lv_iconst (v := (2 : Int32)) hx hb dX7_mark_37 (by decide) ?_
      obtain ⟨b65, ho65, hc65, hk65, hF⟩ := dr_some hF
      refine W_st (st' := [.int (2 : Int32), .ref (ad b65)]) (by rw [va_some ho65]) ?_
      refine va_put (D := D) (ci := 4) (v := .int (2 : Int32)) (ty := .int) (C := RX4) (T := TX4) (N := 18) hx hb hts (mus hf_X4) tyX4 tyX4_ok nmX4 hown hK hP hD hS b65 (wld_o ct ad G M60 hc65 hk65 (by decide)) rfl 10 (by decide) (hts (.fieldLink RX7 123 "VideoSuite$Picture" "use" "I") (mu mw_1460)) (fun _ h9 => h9) rfl (by decide +kernel) rfl rfl (Nat.le_of_ble_eq_true rfl) dX7_mark_38 (fun H locs hP hD hS => ?_)
      obtain ⟨M66, eM66, hF⟩ := ltt_some hF
      rw [set_oI ct ad G M60 hc65 hk65 (by decide) (by rfl), ← eM66] at hP hD
      refine lv_aloadq_n hx hb dX7_mark_41 rfl (lv_at hl 2 rfl) ?_
      refine lv_iconst (v := (0 : Int32)) hx hb dX7_mark_42 (by decide) ?_
      refine W_st (st' := [.int (0 : Int32), .ref (ad b65)]) (by rw [va_some ho65]) ?_
      refine va_put (D := D) (ci := 4) (v := .int (0 : Int32)) (ty := .int) (C := RX4) (T := TX4) (N := 18) hx hb hts (mus hf_X4) tyX4 tyX4_ok nmX4 hown hK hP hD hS b65 (wld_o ct ad G M66 hc65 hk65 (by decide)) rfl 11 (by decide) (hts (.fieldLink RX7 129 "VideoSuite$Picture" "number" "I") (mu mw_1464)) (fun _ h9 => h9) rfl (by decide +kernel) rfl rfl (Nat.le_of_ble_eq_true rfl) dX7_mark_43 (fun H locs hP hD hS => ?_)
      obtain ⟨M67, eM67, hF⟩ := ltt_some hF
      rw [set_oI ct ad G M66 hc65 hk65 (by decide) (by rfl), ← eM67] at hP hD
      refine lv_goto (tgt := 70) hx hb dX7_mark_46 (by decide) ?_
      obtain rfl := Option.some.inj hF
      exact J63 _ _ _ hP hD hS (lv_sub hl [0, 1, 2, 3, 4, 5] rfl)
set_option maxRecDepth 20000 in
theorem gX7_planeAt_X7_wide : GoodIn wuX7_planeAt (wsV RX7 256 RX7 yX7_wide wuX7_wide) := gu_V mw_1082 mw_1083 mw_1084 mw_170 mw_1085
set_option maxRecDepth 20000 in
set_option maxRecDepth 20000 in
theorem gX7_planeAt_X7_high : GoodIn wuX7_planeAt (wsV RX7 260 RX7 yX7_high wuX7_high) := gu_V mw_1086 mw_1087 mw_1088 mw_170 mw_1089
theorem dX7_planeAt_0 : decode cX7_planeAt 0 = .ok (.aload_n 0, 1) := by decide +kernel
theorem dX7_planeAt_1 : decode cX7_planeAt 1 = .ok (.iload_n 1, 1) := by decide +kernel
theorem dX7_planeAt_2 : decode cX7_planeAt 2 = .ok (.iconst 0, 1) := by decide +kernel
theorem dX7_planeAt_3 : decode cX7_planeAt 3 = .ok (.invokevirtual 256, 3) := by decide +kernel
theorem dX7_planeAt_6 : decode cX7_planeAt 6 = .ok (.aload_n 0, 1) := by decide +kernel
theorem dX7_planeAt_7 : decode cX7_planeAt 7 = .ok (.iload_n 1, 1) := by decide +kernel
theorem dX7_planeAt_8 : decode cX7_planeAt 8 = .ok (.iconst 0, 1) := by decide +kernel
theorem dX7_planeAt_9 : decode cX7_planeAt 9 = .ok (.invokevirtual 260, 3) := by decide +kernel
theorem dX7_planeAt_12 : decode cX7_planeAt 12 = .ok (.imul, 1) := by decide +kernel
theorem dX7_planeAt_13 : decode cX7_planeAt 13 = .ok (.istore_n 3, 1) := by decide +kernel
theorem dX7_planeAt_14 : decode cX7_planeAt 14 = .ok (.iload_n 2, 1) := by decide +kernel
theorem dX7_planeAt_15 : decode cX7_planeAt 15 = .ok (.ifCond .ne 7, 3) := by decide +kernel
theorem dX7_planeAt_18 : decode cX7_planeAt 18 = .ok (.iconst 0, 1) := by decide +kernel
theorem dX7_planeAt_19 : decode cX7_planeAt 19 = .ok (.goto 17, 3) := by decide +kernel
theorem dX7_planeAt_22 : decode cX7_planeAt 22 = .ok (.iload_n 2, 1) := by decide +kernel
theorem dX7_planeAt_23 : decode cX7_planeAt 23 = .ok (.iconst 1, 1) := by decide +kernel
theorem dX7_planeAt_24 : decode cX7_planeAt 24 = .ok (.if_icmp .ne 7, 3) := by decide +kernel
theorem dX7_planeAt_27 : decode cX7_planeAt 27 = .ok (.iload_n 3, 1) := by decide +kernel
theorem dX7_planeAt_28 : decode cX7_planeAt 28 = .ok (.goto 8, 3) := by decide +kernel
theorem dX7_planeAt_31 : decode cX7_planeAt 31 = .ok (.iload_n 3, 1) := by decide +kernel
theorem dX7_planeAt_32 : decode cX7_planeAt 32 = .ok (.iload_n 3, 1) := by decide +kernel
theorem dX7_planeAt_33 : decode cX7_planeAt 33 = .ok (.iconst 4, 1) := by decide +kernel
theorem dX7_planeAt_34 : decode cX7_planeAt 34 = .ok (.idiv, 1) := by decide +kernel
theorem dX7_planeAt_35 : decode cX7_planeAt 35 = .ok (.iadd, 1) := by decide +kernel
theorem dX7_planeAt_36 : decode cX7_planeAt 36 = .ok (.ireturn, 1) := by decide +kernel
def FX7_planeAt (G : GG) (M : DD) (a : Nat) (p0 : Int32) (p1 : Int32) : Option (DD × Int32) :=
  bnd (FX7_wide G M a p0 ((0 : Int32))) fun y1 =>
  bnd (FX7_high G y1.1 a p0 ((0 : Int32))) fun y2 =>
  ltt ((y1.2 * y2.2)) fun x3 =>
  bnd (if p1 = ((0 : Int32)) then (some ((0 : Int32))) else
  (bnd (if p1 = ((1 : Int32)) then (some (x3)) else
  (ltt (x3 / ((4 : Int32))) fun x8 =>
  ltt ((x3 + x8)) fun x9 =>
  some (x9))) fun (y6 : Int32) =>
  some (y6))) fun (y4 : Int32) =>
  some (y2.1, y4)
set_option maxHeartbeats 4000000 in
set_option maxRecDepth 100000 in
theorem kX7_planeAt (l : Launch) (D : va_G) (ct : CT) (ad : Nat → Nat) (Z : Nat → Nat) (G : GG) (M : DD) (sz : Nat) (a : Nat) (p0 : Int32) (p1 : Int32) (y : DD × Int32) (hc : a < G.1) (hk : G.2.1 a = 7) (hF : FX7_planeAt G M a p0 p1 = some y) : Met l yX7_planeAt wuX7_planeAt ({ frames := 1, cells := 0, slots := 0, locals := 22 }) (va_Pc [.ref (ad a), .int p0, .int p1] (kB D ct ad Z G M sz)) (va_Qi (fun (q : Int32) (_ : Unit) => q = y.2) (fun _ t => kE D ct ad G (wA ad G sz) y.1 t) (wA ad G sz)) 0 0 (wA ad G sz) := by
  refine Met.ofW (cc := cX7_planeAt) (maxL := 4) (ret := (some .int)) (by decide) rfl ?_
  intro p e s m args below meth c s₁ B hml hv
  obtain ⟨rfl, hsz, hP, hK, hD0, hZ, hN⟩ := hv
  have hx := B.exec
  have hb := B.bytes
  have hr := B.returns
  have hts := atoms_spec (ws := wuX7_planeAt) B.pre
  have hown : s.vm.findClass RX7 = some m.cls := findClass_of_methodNamed B.named
  have hlocks := B.notSynchronized
  subst hsz
  have hD := wD_self (sz := s.heap.size) hD0
  have hA9 : ∀ q, s.heap.size ≤ q → wA ad G s.heap.size q := fun q h => Or.inr h
  generalize hAe : wA ad G s.heap.size = A at hD hA9 hZ ⊢
  have hS : va_S A s.heap s.heap [] := va_S.rf
  have hl := lv_entry ([.ref (ad a), .int p0, .int p1]) (n := 4) (Nat.le_of_ble_eq_true rfl)
  rw [lg_entry_eq]
  generalize (lg_sl ([.ref (ad a), .int p0, .int p1]) ++ List.replicate (4 - (lg_sl ([.ref (ad a), .int p0, .int p1])).length) Slot.unset).toArray = ls at hl ⊢
  have hl : lv_has ls 4 [(0, .ref (ad a)), (1, .int p0), (2, .int p1)] := hl
  unfold FX7_planeAt at hF
  refine lv_aload_n hx hb dX7_planeAt_0 rfl (lv_at hl 0 rfl) ?_
  refine lv_iload_n hx hb dX7_planeAt_1 rfl (lv_at hl 1 rfl) ?_
  refine lv_iconst (v := (0 : Int32)) hx hb dX7_planeAt_2 (by decide) ?_
  obtain ⟨y1, hy1, hF⟩ := bnd_some hF
  have hf9 := wA_in hD hA9 hS
  refine va_calli (va_runV (As := [.int p0, .int (0 : Int32)]) (rest := []) ⟨hx, hb, hml, hown, hts⟩ (kX7_wide l D ct ad Z G M s.heap.size a p0 ((0 : Int32)) y1 hc hk hy1) (cwV 2 hts gX7_planeAt_X7_wide rfl rfl rfl (by decide +kernel) ⟨Nat.le_of_ble_eq_true rfl, Nat.le_of_ble_eq_true rfl⟩) ⟨fun a U g mk q => by obtain ⟨q0, q1, qP, qK, qD, qZ, qN⟩ := q; exact ⟨q0, q1, qP, va_K.moved (u := U) (U := U.calling g mk a) (Vm.Alike.refl U.vm) qK, qD, sF.moved (u := U) (U := U.calling g mk a) (Vm.Alike.refl U.vm) qZ, nF.same rfl qN⟩, va_recv hK hP (ci := 7) (q0 := a) rfl (wld_o ct ad G M hc hk (by decide)), fun U hU hW => ⟨rfl, by rw [hU], by rw [hU]; exact hP, va_K.moved hW.alike hK, hD.weaken (fun _ _ _ _ => trivial), by rw [hU]; exact ((hZ.kept hS.2.1).narrow hf9).moved hW.alike, hN.warm hW⟩⟩ rfl rfl hl.1 rfl (lv_room (Nat.le_of_ble_eq_true rfl)) dX7_planeAt_3 ⟨(Nat.zero_le _), (Nat.zero_le _)⟩) hS (fun q _ h => hf9 q h) hf9 (fun r u t H locs ht hvm hw hB hz1 hk1 hS => ?_)
  obtain ⟨hP, hK9, hD9⟩ := hB
  rw [ht] at hP
  try dsimp only at hw
  subst hw
  have hD := hD9.weaken (fun _ q _ h => hf9 q.1 h)
  refine lv_aload_n hx hb dX7_planeAt_6 rfl (lv_at hl 0 rfl) ?_
  refine lv_iload_n hx hb dX7_planeAt_7 rfl (lv_at hl 1 rfl) ?_
  refine lv_iconst (v := (0 : Int32)) hx hb dX7_planeAt_8 (by decide) ?_
  obtain ⟨y2, hy2, hF⟩ := bnd_some hF
  have hf9 := wA_in hD hA9 hS
  refine va_calli (va_runV (As := [.int p0, .int (0 : Int32)]) (rest := [.int y1.2]) ⟨hx, hb, hml, hown, hts⟩ (kX7_high l D ct ad Z G y1.1 H.size a p0 ((0 : Int32)) y2 hc hk hy2) (cwV 2 hts gX7_planeAt_X7_high rfl rfl rfl (by decide +kernel) ⟨Nat.le_of_ble_eq_true rfl, Nat.le_of_ble_eq_true rfl⟩) ⟨fun a U g mk q => by obtain ⟨q0, q1, qP, qK, qD, qZ, qN⟩ := q; exact ⟨q0, q1, qP, va_K.moved (u := U) (U := U.calling g mk a) (Vm.Alike.refl U.vm) qK, qD, sF.moved (u := U) (U := U.calling g mk a) (Vm.Alike.refl U.vm) qZ, nF.same rfl qN⟩, va_recv hK hP (ci := 7) (q0 := a) rfl (wld_o ct ad G y1.1 hc hk (by decide)), fun U hU hW => ⟨rfl, by rw [hU], by rw [hU]; exact hP, va_K.moved hW.alike hK, hD.weaken (fun _ _ _ _ => trivial), by rw [hU]; exact ((hZ.kept hS.2.1).narrow hf9).moved hW.alike, hN.warm hW⟩⟩ rfl rfl hl.1 rfl (lv_room (Nat.le_of_ble_eq_true rfl)) dX7_planeAt_9 ⟨(Nat.zero_le _), (Nat.zero_le _)⟩) hS (fun q _ h => hf9 q h) hf9 (fun r u t H locs ht hvm hw hB hz1 hk1 hS => ?_)
  obtain ⟨hP, hK9, hD9⟩ := hB
  rw [ht] at hP
  try dsimp only at hw
  subst hw
  have hD := hD9.weaken (fun _ q _ h => hf9 q.1 h)
  refine lv_imul hx hb dX7_planeAt_12 ?_
  obtain ⟨x3, ex3, hF⟩ := ltt_some hF
  refine lv_topi (fun zx3 ezx3 => ?_)
  obtain rfl : x3 = zx3 := ex3.trans ezx3.symm
  refine lv_istore_n (lv' := [(3, .int x3), (0, .ref (ad a)), (1, .int p0), (2, .int p1)]) hx hb dX7_planeAt_13 rfl hl (by decide) rfl (fun ls hl => ?_)
  refine lv_iload_n hx hb dX7_planeAt_14 rfl (lv_at hl 3 rfl) ?_
  obtain ⟨y4, hy4, hF⟩ := bnd_some hF
  have J4 : ∀ (H : Heap) (locs : List Loc) (ls : Array Slot), va_P D classes (wld ct ad G y2.1) H → va_D A (wld ct ad G y2.1) → va_S A s.heap H locs → lv_has ls 4 [(3, .int x3), (0, .ref (ad a)), (1, .int p0), (2, .int p1)] → W p l e (headSpec wuX7_planeAt ({ frames := 1, cells := 0, slots := 0, locals := 22 })).room s m ([.ref (ad a), .int p0, .int p1] : List Value).toArray below meth c H locs 0 0 (MQ below (va_Qi (fun (q : Int32) (_ : Unit) => q = y.2) (fun _ t => kE D ct ad G A y.1 t) A) ([.ref (ad a), .int p0, .int p1] : List Value).toArray s 0 0 A) (F0 m 36 ls [.int y4]) := by
    intro H locs ls hP hD hS hl
    obtain rfl := Option.some.inj hF
    exact W.iret (v := y4) hx hb hr (fun t ht hW => ⟨⟨_, (), rfl, rfl, ⟨by rw [ht]; exact hP, va_K.moved hW.alike hK, hD⟩⟩, hS.F ht⟩) hS.2.2 dX7_planeAt_36
  clear hF
  have hF := hy4
  clear hy4
  refine lv_if_ne (tgt := 22) hx hb dX7_planeAt_15 (by decide) (fun c5 => ?_) (fun c5 => ?_)
  · rw [if_neg c5] at hF
    refine lv_iload_n hx hb dX7_planeAt_22 rfl (lv_at hl 3 rfl) ?_
    refine lv_iconst (v := (1 : Int32)) hx hb dX7_planeAt_23 (by decide) ?_
    obtain ⟨y6, hy6, hF⟩ := bnd_some hF
    have J6 : ∀ (H : Heap) (locs : List Loc) (ls : Array Slot), va_P D classes (wld ct ad G y2.1) H → va_D A (wld ct ad G y2.1) → va_S A s.heap H locs → lv_has ls 4 [(3, .int x3), (0, .ref (ad a)), (1, .int p0), (2, .int p1)] → W p l e (headSpec wuX7_planeAt ({ frames := 1, cells := 0, slots := 0, locals := 22 })).room s m ([.ref (ad a), .int p0, .int p1] : List Value).toArray below meth c H locs 0 0 (MQ below (va_Qi (fun (q : Int32) (_ : Unit) => q = y.2) (fun _ t => kE D ct ad G A y.1 t) A) ([.ref (ad a), .int p0, .int p1] : List Value).toArray s 0 0 A) (F0 m 36 ls [.int y6]) := by
      intro H locs ls hP hD hS hl
      obtain rfl := Option.some.inj hF
      exact J4 _ _ _ hP hD hS (lv_sub hl [0, 1, 2, 3] rfl)
    clear hF
    have hF := hy6
    clear hy6
    refine lv_icmp_ne (tgt := 31) hx hb dX7_planeAt_24 (by decide) (fun c7 => ?_) (fun c7 => ?_)
    · rw [if_neg c7] at hF
      refine lv_iload_n hx hb dX7_planeAt_31 rfl (lv_at hl 0 rfl) ?_
      refine lv_iload_n hx hb dX7_planeAt_32 rfl (lv_at hl 0 rfl) ?_
      refine lv_iconst (v := (4 : Int32)) hx hb dX7_planeAt_33 (by decide) ?_
      refine lv_idiv hx hb dX7_planeAt_34 (by decide) ?_
      obtain ⟨x8, ex8, hF⟩ := ltt_some hF
      refine lv_topi (fun zx8 ezx8 => ?_)
      obtain rfl : x8 = zx8 := ex8.trans ezx8.symm
      refine lv_iadd hx hb dX7_planeAt_35 ?_
      obtain ⟨x9, ex9, hF⟩ := ltt_some hF
      refine lv_topi (fun zx9 ezx9 => ?_)
      obtain rfl : x9 = zx9 := ex9.trans ezx9.symm
      obtain rfl := Option.some.inj hF
      exact J6 _ _ _ hP hD hS (lv_sub hl [0, 1, 2, 3] rfl)
    · rw [if_pos c7] at hF
      refine lv_iload_n hx hb dX7_planeAt_27 rfl (lv_at hl 0 rfl) ?_
      refine lv_goto (tgt := 36) hx hb dX7_planeAt_28 (by decide) ?_
      obtain rfl := Option.some.inj hF
      exact J6 _ _ _ hP hD hS (lv_sub hl [0, 1, 2, 3] rfl)
  · rw [if_pos c5] at hF
    refine lv_iconst (v := (0 : Int32)) hx hb dX7_planeAt_18 (by decide) ?_
    refine lv_goto (tgt := 36) hx hb dX7_planeAt_19 (by decide) ?_
    obtain rfl := Option.some.inj hF
    exact J4 _ _ _ hP hD hS (lv_sub hl [0, 1, 2, 3] rfl)
set_option maxRecDepth 20000 in
theorem gX7_putOut_X7_noteFacts : GoodIn wuX7_putOut (wsV RX7 231 RX7 yX7_noteFacts wuX7_noteFacts) := gu_V mw_1074 mw_1076 mw_20 mw_170 mw_1077
set_option maxRecDepth 20000 in
set_option maxRecDepth 20000 in
theorem gX7_putOut_X7_copyOut : GoodIn wuX7_putOut (wsV RX7 235 RX7 yX7_copyOut wuX7_copyOut) := gu_V mw_1078 mw_1080 mw_21 mw_170 mw_1081
theorem dX7_putOut_0 : decode cX7_putOut 0 = .ok (.aload_n 1, 1) := by decide +kernel
theorem dX7_putOut_1 : decode cX7_putOut 1 = .ok (.iconst 0, 1) := by decide +kernel
theorem dX7_putOut_2 : decode cX7_putOut 2 = .ok (.putfield 164, 3) := by decide +kernel
theorem dX7_putOut_5 : decode cX7_putOut 5 = .ok (.aload_n 0, 1) := by decide +kernel
theorem dX7_putOut_6 : decode cX7_putOut 6 = .ok (.getfield 58, 3) := by decide +kernel
theorem dX7_putOut_9 : decode cX7_putOut 9 = .ok (.bipush 40, 2) := by decide +kernel
theorem dX7_putOut_11 : decode cX7_putOut 11 = .ok (.if_icmp .ge 24, 3) := by decide +kernel
theorem dX7_putOut_14 : decode cX7_putOut 14 = .ok (.aload_n 0, 1) := by decide +kernel
theorem dX7_putOut_15 : decode cX7_putOut 15 = .ok (.aload_n 1, 1) := by decide +kernel
theorem dX7_putOut_16 : decode cX7_putOut 16 = .ok (.bipush 7, 2) := by decide +kernel
theorem dX7_putOut_18 : decode cX7_putOut 18 = .ok (.aload_n 0, 1) := by decide +kernel
theorem dX7_putOut_19 : decode cX7_putOut 19 = .ok (.getfield 58, 3) := by decide +kernel
theorem dX7_putOut_22 : decode cX7_putOut 22 = .ok (.imul, 1) := by decide +kernel
theorem dX7_putOut_23 : decode cX7_putOut 23 = .ok (.invokevirtual 231, 3) := by decide +kernel
theorem dX7_putOut_26 : decode cX7_putOut 26 = .ok (.aload_n 0, 1) := by decide +kernel
theorem dX7_putOut_27 : decode cX7_putOut 27 = .ok (.aload_n 1, 1) := by decide +kernel
theorem dX7_putOut_28 : decode cX7_putOut 28 = .ok (.aload_n 0, 1) := by decide +kernel
theorem dX7_putOut_29 : decode cX7_putOut 29 = .ok (.getfield 58, 3) := by decide +kernel
theorem dX7_putOut_32 : decode cX7_putOut 32 = .ok (.invokevirtual 235, 3) := by decide +kernel
theorem dX7_putOut_35 : decode cX7_putOut 35 = .ok (.aload_n 0, 1) := by decide +kernel
theorem dX7_putOut_36 : decode cX7_putOut 36 = .ok (.dup, 1) := by decide +kernel
theorem dX7_putOut_37 : decode cX7_putOut 37 = .ok (.getfield 58, 3) := by decide +kernel
theorem dX7_putOut_40 : decode cX7_putOut 40 = .ok (.iconst 1, 1) := by decide +kernel
theorem dX7_putOut_41 : decode cX7_putOut 41 = .ok (.iadd, 1) := by decide +kernel
theorem dX7_putOut_42 : decode cX7_putOut 42 = .ok (.putfield 58, 3) := by decide +kernel
theorem dX7_putOut_45 : decode cX7_putOut 45 = .ok (.return_, 1) := by decide +kernel
noncomputable def FX7_putOut (G : GG) (M : DD) (a : Nat) (p0 : Option Nat) : Option (NN × DD) :=
  dr (xt G []) 4 p0 fun b2 =>
  chk (((0 : Int32)) = 0 ∨ ((0 : Int32)) = 1) <|
  ltt (uI M b2 12 ((0 : Int32))) fun M3 =>
  ltt (M3.1 a 14) fun x4 =>
  bnd (if ((40 : Int32)) ≤ x4 then (some ([], M3)) else
  (ltt (M3.1 a 14) fun x14 =>
  ltt ((((7 : Int32)) * x14)) fun x15 =>
  bnd (FX7_noteFacts (xt G []) M3 a p0 x15) fun y16 =>
  ltt (y16.1 a 14) fun x17 =>
  bnd (FX7_copyOut (xt G []) y16 a p0 x17) fun y18 =>
  app y18.1 <|
  ltt ([] ++ y18.1) fun L20 =>
  some ([], y18.2))) fun (y5 : NN × DD) =>
  app y5.1 <|
  ltt ([] ++ y5.1) fun L7 =>
  ltt (y5.2.1 a 14) fun x9 =>
  ltt ((x9 + ((1 : Int32)))) fun x10 =>
  ltt (uI y5.2 a 14 x10) fun M11 =>
  some ([], M11)
set_option maxHeartbeats 4000000 in
set_option maxRecDepth 100000 in
theorem kX7_putOut (l : Launch) (D : va_G) (ct : CT) (ad : Nat → Nat) (Z : Nat → Nat) (G : GG) (M : DD) (sz : Nat) (a : Nat) (p0 : Option Nat) (y : NN × DD) (hc : a < G.1) (hk : G.2.1 a = 7) (hF : FX7_putOut G M a p0 = some y) : Met l yX7_putOut wuX7_putOut ({ frames := 2, cells := y.1.length, slots := wt y.1, locals := 110 }) (va_Pc [.ref (ad a), va_re ad p0] (kB D ct ad Z G M sz)) (va_Qv (fun (u : Nat → Nat) => agr G.1 ad u) (fun u t => kE D ct u (xt G y.1) (wA ad G sz) y.2 t) (wA ad G sz)) y.1.length (wt y.1) (wA ad G sz) := by
  refine Met.ofW (cc := cX7_putOut) (maxL := 2) (ret := none) (by decide) rfl ?_
  intro p e s m args below meth c s₁ B hml hv
  obtain ⟨rfl, hsz, hP, hK, hD0, hZ, hN⟩ := hv
  have hx := B.exec
  have hb := B.bytes
  have hr := B.returns
  have hts := atoms_spec (ws := wuX7_putOut) B.pre
  have hown : s.vm.findClass RX7 = some m.cls := findClass_of_methodNamed B.named
  have hlocks := B.notSynchronized
  subst hsz
  have hD := wD_self (sz := s.heap.size) hD0
  have hA9 : ∀ q, s.heap.size ≤ q → wA ad G s.heap.size q := fun q h => Or.inr h
  generalize hAe : wA ad G s.heap.size = A at hD hA9 hZ ⊢
  have hS : va_S A s.heap s.heap [] := va_S.rf
  have hl := lv_entry ([.ref (ad a), va_re ad p0]) (n := 2) (by cases p0 <;> exact Nat.le_of_ble_eq_true rfl)
  rw [lg_entry_eq]
  generalize (lg_sl ([.ref (ad a), va_re ad p0]) ++ List.replicate (2 - (lg_sl ([.ref (ad a), va_re ad p0])).length) Slot.unset).toArray = ls at hl ⊢
  have hl : lv_has ls 2 [(0, .ref (ad a)), (1, va_re ad p0)] := by have e9 : lv_args 0 [.ref (ad a), va_re ad p0] = [(0, .ref (ad a)), (1, va_re ad p0)] := (by cases p0 <;> rfl); rw [e9] at hl; exact hl
  unfold FX7_putOut at hF
  rw [← wld_0 ct ad G M] at hP hD
  have hk := xt_k0 hc hk
  have hc := xt_l0 hc
  have hag := agr_rf G.1 ad
  obtain ⟨w0, hw0⟩ : ∃ z, z = y := ⟨_, rfl⟩
  rw [← hw0] at hF
  have hT : y.1 = [] ++ w0.1 := by rw [hw0]; rfl
  have h2 : y.2 = w0.2 := by rw [hw0]
  have hbl : y.1.length ≤ y.1.length ∧ wt y.1 ≤ wt y.1 := ⟨Nat.le_refl _, Nat.le_refl _⟩
  refine lv_aloadq_n hx hb dX7_putOut_0 rfl (lv_at hl 1 rfl) ?_
  refine lv_iconst (v := (0 : Int32)) hx hb dX7_putOut_1 (by decide) ?_
  obtain ⟨b2, ho2, hc2, hk2, hF⟩ := dr_some hF
  refine W_st (st' := [.int (0 : Int32), .ref (ad b2)]) (by rw [va_some ho2]) ?_
  obtain ⟨hz9, hF⟩ := chk_some hF
  refine va_put (D := D) (ci := 4) (v := .int (0 : Int32)) (ty := .boolean) (C := RX4) (T := TX4) (N := 18) hx hb hts (mus hf_X4) tyX4 tyX4_ok nmX4 hown hK hP hD hS b2 (wld_o ct ad (xt G []) M hc2 hk2 (by decide)) rfl 12 (by decide) (hts (.fieldLink RX7 164 "VideoSuite$Picture" "isWaiting" "Z") (mu mw_1466)) (fun _ h9 => h9) rfl (by decide +kernel) (nar_z hz9).1 (nar_z hz9).2 (Nat.le_of_ble_eq_true rfl) dX7_putOut_2 (fun H locs hP hD hS => ?_)
  obtain ⟨M3, eM3, hF⟩ := ltt_some hF
  rw [set_oI ct ad (xt G []) M hc2 hk2 (by decide) (by rfl), ← eM3] at hP hD
  refine lv_aload_n hx hb dX7_putOut_5 rfl (lv_at hl 0 rfl) ?_
  refine va_get (D := D) (ci := 7) (v := .int (M3.1 a 14)) (C := RX7) (T := TX7) (N := 17) hx hb hts (mus hf_X7) hown hK hP a (wld_o ct ad (xt G []) M3 hc hk (by decide)) rfl 14 (by decide) (hts (.fieldLink RX7 58 "VideoSuite$Store" "outputs" "I") (mu mw_373)) (fun _ h9 => h9) rfl dX7_putOut_6 ?_
  obtain ⟨x4, ex4, hF⟩ := ltt_some hF
  refine lv_topi (fun zx4 ezx4 => ?_)
  obtain rfl : x4 = zx4 := ex4.trans ezx4.symm
  refine lv_bipush (v := (40 : Int32)) hx hb dX7_putOut_9 (by decide) ?_
  obtain ⟨y5, hy5, hF⟩ := bnd_some hF
  obtain ⟨w6, hF, ew6⟩ := app_some hF
  obtain ⟨L7, eL7, hF⟩ := ltt_some hF
  have hT7 : y.1 = ([] ++ y5.1) ++ w6.1 := by rw [hT, ew6]; simp only [List.append_assoc]
  have hbl7 : L7.length ≤ y.1.length ∧ wt L7 ≤ wt y.1 := by rw [eL7]; exact room_d hT7 hbl
  have J5 : ∀ (ad8 : Nat → Nat), agr G.1 ad ad8 → ∀ (H : Heap) (locs : List Loc) (ls : Array Slot), va_P D classes (wld ct ad8 (xt G L7) y5.2) H → va_D A (wld ct ad8 (xt G L7) y5.2) → va_S A s.heap H locs → lv_has ls 2 [(0, .ref (ad8 a))] → W p l e (headSpec wuX7_putOut ({ frames := 2, cells := y.1.length, slots := wt y.1, locals := 110 })).room s m ([.ref (ad a), va_re ad p0] : List Value).toArray below meth c H locs (L7 : NN).length (wt L7) (MQ below (va_Qv (fun (u : Nat → Nat) => agr G.1 ad u) (fun u t => kE D ct u (xt G y.1) A y.2 t) A) ([.ref (ad a), va_re ad p0] : List Value).toArray s y.1.length (wt y.1) A) (F0 m 35 ls []) := by
    intro ad8 hag H locs ls hP hD hS hl
    have hT : y.1 = L7 ++ w6.1 := by rw [hT7, eL7]
    have h2 : y.2 = w6.2 := by rw [h2, ew6]
    have hk : (xt G L7).2.1 a = 7 := by rw [eL7]; exact xt_k _ hc hk
    have hc : a < (xt G L7).1 := by rw [eL7]; exact xt_l _ hc
    have hk2 : (xt G L7).2.1 b2 = 4 := by rw [eL7]; exact xt_k _ hc2 hk2
    have hc2 : b2 < (xt G L7).1 := by rw [eL7]; exact xt_l _ hc2
    refine lv_aload_n hx hb dX7_putOut_35 rfl (lv_at hl 0 rfl) ?_
    refine lv_dup hx hb dX7_putOut_36 rfl ?_
    refine va_get (D := D) (ci := 7) (v := .int (y5.2.1 a 14)) (C := RX7) (T := TX7) (N := 17) hx hb hts (mus hf_X7) hown hK hP a (wld_o ct ad8 (xt G L7) y5.2 hc hk (by decide)) rfl 14 (by decide) (hts (.fieldLink RX7 58 "VideoSuite$Store" "outputs" "I") (mu mw_373)) (fun _ h9 => h9) rfl dX7_putOut_37 ?_
    obtain ⟨x9, ex9, hF⟩ := ltt_some hF
    refine lv_topi (fun zx9 ezx9 => ?_)
    obtain rfl : x9 = zx9 := ex9.trans ezx9.symm
    refine lv_iconst (v := (1 : Int32)) hx hb dX7_putOut_40 (by decide) ?_
    refine lv_iadd hx hb dX7_putOut_41 ?_
    obtain ⟨x10, ex10, hF⟩ := ltt_some hF
    refine lv_topi (fun zx10 ezx10 => ?_)
    obtain rfl : x10 = zx10 := ex10.trans ezx10.symm
    refine va_put (D := D) (ci := 7) (v := .int x10) (ty := .int) (C := RX7) (T := TX7) (N := 17) hx hb hts (mus hf_X7) tyX7 tyX7_ok nmX7 hown hK hP hD hS a (wld_o ct ad8 (xt G L7) y5.2 hc hk (by decide)) rfl 14 (by decide) (hts (.fieldLink RX7 58 "VideoSuite$Store" "outputs" "I") (mu mw_373)) (fun _ h9 => h9) rfl (by decide +kernel) rfl rfl (Nat.le_of_ble_eq_true rfl) dX7_putOut_42 (fun H locs hP hD hS => ?_)
    obtain ⟨M11, eM11, hF⟩ := ltt_some hF
    rw [set_oI ct ad8 (xt G L7) y5.2 hc hk (by decide) (by rfl), ← eM11] at hP hD
    obtain rfl := Option.some.inj hF
    have e1 : y.1 = L7 := by rw [hT]; exact List.append_nil _
    have e2 : y.2 = M11 := h2
    refine W.widen (k := y.1.length) (n := wt y.1) (Nat.le_of_eq (by rw [e1])) (Nat.le_of_eq (by rw [e1])) ?_
    exact W.vret hx hb hr (fun t ht hW => ⟨⟨ad8, rfl, hag, (by unfold kE; rw [e1, e2]; exact ⟨by rw [ht]; exact hP, va_K.moved hW.alike hK, hD⟩)⟩, hS.F ht⟩) hS.2.2 dX7_putOut_45
  clear hF
  obtain ⟨w12, hw12⟩ : ∃ z, z = y5 := ⟨_, rfl⟩
  have hF := hy5
  rw [← hw12] at hF
  clear hy5
  have hT : L7 = [] ++ w12.1 := by rw [eL7, hw12]
  have h2 : y5.2 = w12.2 := by rw [hw12]
  have hbl := hbl7
  refine lv_icmp_ge (tgt := 35) hx hb dX7_putOut_11 (by decide) (fun c13 => ?_) (fun c13 => ?_)
  · rw [if_pos c13] at hF
    obtain rfl := Option.some.inj hF
    have e1 : L7 = [] := by rw [hT]; exact List.append_nil _
    have e2 : y5.2 = M3 := h2
    rw [e1] at J5
    try rw [e2] at J5
    exact J5 _ hag _ _ _ hP hD hS (lv_sub hl [0] rfl)
  · rw [if_neg c13] at hF
    refine lv_aload_n hx hb dX7_putOut_14 rfl (lv_at hl 0 rfl) ?_
    refine lv_aloadq_n hx hb dX7_putOut_15 rfl (lv_at hl 1 rfl) ?_
    refine lv_bipush (v := (7 : Int32)) hx hb dX7_putOut_16 (by decide) ?_
    refine lv_aload_n hx hb dX7_putOut_18 rfl (lv_at hl 0 rfl) ?_
    refine va_get (D := D) (ci := 7) (v := .int (M3.1 a 14)) (C := RX7) (T := TX7) (N := 17) hx hb hts (mus hf_X7) hown hK hP a (wld_o ct ad (xt G []) M3 hc hk (by decide)) rfl 14 (by decide) (hts (.fieldLink RX7 58 "VideoSuite$Store" "outputs" "I") (mu mw_373)) (fun _ h9 => h9) rfl dX7_putOut_19 ?_
    obtain ⟨x14, ex14, hF⟩ := ltt_some hF
    refine lv_topi (fun zx14 ezx14 => ?_)
    obtain rfl : x14 = zx14 := ex14.trans ezx14.symm
    refine lv_imul hx hb dX7_putOut_22 ?_
    obtain ⟨x15, ex15, hF⟩ := ltt_some hF
    refine lv_topi (fun zx15 ezx15 => ?_)
    obtain rfl : x15 = zx15 := ex15.trans ezx15.symm
    obtain ⟨y16, hy16, hF⟩ := bnd_some hF
    have hf9 := wA_in hD hA9 hS
    refine va_callv (va_runV (As := [va_re ad p0, .int x15]) (rest := []) ⟨hx, hb, hml, hown, hts⟩ (kX7_noteFacts l D ct ad Z (xt G []) M3 H.size a p0 x15 y16 hc hk hy16) (cwV 2 hts gX7_putOut_X7_noteFacts rfl rfl rfl (by decide +kernel) ⟨Nat.le_of_ble_eq_true rfl, Nat.le_of_ble_eq_true rfl⟩) ⟨fun a U g mk q => by obtain ⟨q0, q1, qP, qK, qD, qZ, qN⟩ := q; exact ⟨q0, q1, qP, va_K.moved (u := U) (U := U.calling g mk a) (Vm.Alike.refl U.vm) qK, qD, sF.moved (u := U) (U := U.calling g mk a) (Vm.Alike.refl U.vm) qZ, nF.same rfl qN⟩, va_recv hK hP (ci := 7) (q0 := a) rfl (wld_o ct ad (xt G []) M3 hc hk (by decide)), fun U hU hW => ⟨rfl, by rw [hU], by rw [hU]; exact hP, va_K.moved hW.alike hK, hD.weaken (fun _ _ _ _ => trivial), by rw [hU]; exact ((hZ.kept hS.2.1).narrow hf9).moved hW.alike, hN.warm hW⟩⟩ rfl rfl hl.1 rfl (lv_room (Nat.le_of_ble_eq_true rfl)) dX7_putOut_23 (room_d hT hbl)) hS (fun q _ h => hf9 q h) hf9 (fun u t H locs ht hvm hw hB hz1 hk1 hS => ?_)
    obtain ⟨hP, hK9, hD9⟩ := hB
    rw [ht] at hP
    refine W_cs (k := ([] : NN).length) (n := wt []) rfl rfl ?_
    have hD := hD9.weaken (fun _ q _ h => hf9 q.1 h)
    refine lv_aload_n hx hb dX7_putOut_26 rfl (lv_at hl 0 rfl) ?_
    refine lv_aloadq_n hx hb dX7_putOut_27 rfl (lv_at hl 1 rfl) ?_
    refine lv_aload_n hx hb dX7_putOut_28 rfl (lv_at hl 0 rfl) ?_
    refine va_get (D := D) (ci := 7) (v := .int (y16.1 a 14)) (C := RX7) (T := TX7) (N := 17) hx hb hts (mus hf_X7) hown hK hP a (wld_o ct ad (xt G []) y16 hc hk (by decide)) rfl 14 (by decide) (hts (.fieldLink RX7 58 "VideoSuite$Store" "outputs" "I") (mu mw_373)) (fun _ h9 => h9) rfl dX7_putOut_29 ?_
    obtain ⟨x17, ex17, hF⟩ := ltt_some hF
    refine lv_topi (fun zx17 ezx17 => ?_)
    obtain rfl : x17 = zx17 := ex17.trans ezx17.symm
    obtain ⟨y18, hy18, hF⟩ := bnd_some hF
    obtain ⟨w19, hF, ew19⟩ := app_some hF
    obtain ⟨L20, eL20, hF⟩ := ltt_some hF
    have hT20 : L7 = ([] ++ y18.1) ++ w19.1 := by rw [hT, ew19]; simp only [List.append_assoc]
    have hf9 := wA_in hD hA9 hS
    refine va_callv (va_runV (As := [va_re ad p0, .int x17]) (rest := []) ⟨hx, hb, hml, hown, hts⟩ (kX7_copyOut l D ct ad Z (xt G []) y16 _ a p0 x17 y18 hc hk hy18) (cwV 2 hts gX7_putOut_X7_copyOut rfl rfl rfl (by decide +kernel) ⟨Nat.le_of_ble_eq_true rfl, Nat.le_of_ble_eq_true rfl⟩) ⟨fun a U g mk q => by obtain ⟨q0, q1, qP, qK, qD, qZ, qN⟩ := q; exact ⟨q0, q1, qP, va_K.moved (u := U) (U := U.calling g mk a) (Vm.Alike.refl U.vm) qK, qD, sF.moved (u := U) (U := U.calling g mk a) (Vm.Alike.refl U.vm) qZ, nF.same rfl qN⟩, va_recv hK hP (ci := 7) (q0 := a) rfl (wld_o ct ad (xt G []) y16 hc hk (by decide)), fun U hU hW => ⟨rfl, by rw [hU], by rw [hU]; exact hP, va_K.moved hW.alike hK, hD.weaken (fun _ _ _ _ => trivial), by rw [hU]; exact ((hZ.kept hS.2.1).narrow hf9).moved hW.alike, hN.warm hW⟩⟩ rfl rfl hl.1 rfl (lv_room (Nat.le_of_ble_eq_true rfl)) dX7_putOut_32 (room_s hT20 hbl)) hS (fun q _ h => hf9 q h) hf9 (fun ad21 t H locs ht hvm hw hB hz1 hk1 hS => ?_)
    have hn22 := hw
    obtain ⟨hP, hK9, hD9⟩ := hB
    rw [ht] at hP
    have hD := hD9.weaken (fun _ q _ h => hf9 q.1 h)
    rw [xt_xt, ← eL20] at hP hD
    refine W_cs (k := L20.length) (n := wt L20) (by rw [eL20]; exact (len_s [] y18.1).symm) (by rw [eL20]; exact (wt_app [] y18.1).symm) ?_
    have hT : L7 = L20 ++ w19.1 := by rw [hT20, eL20]
    have h2 : y5.2 = w19.2 := by rw [h2, ew19]
    have hl := lv_sub (l' := [(0, .ref (ad a))]) hl [0] rfl
    have e9 : ([(0, .ref (ad a))] : List (Nat × Value)) = [(0, .ref (ad21 a))] := (by first | rfl | simp only [hn22 a hc])
    rw [e9] at hl
    clear e9
    have hk : (xt G L20).2.1 a = 7 := by rw [eL20]; exact xt_k _ hc hk
    have hc : a < (xt G L20).1 := by rw [eL20]; exact xt_l _ hc
    have hk2 : (xt G L20).2.1 b2 = 4 := by rw [eL20]; exact xt_k _ hc2 hk2
    have hc2 : b2 < (xt G L20).1 := by rw [eL20]; exact xt_l _ hc2
    have hag := agr_t (xt_ge _ _) hag hn22
    obtain rfl := Option.some.inj hF
    have e1 : L7 = L20 := by rw [hT]; exact List.append_nil _
    have e2 : y5.2 = y18.2 := h2
    rw [e1] at J5
    try rw [e2] at J5
    exact J5 _ hag _ _ _ hP hD hS (lv_sub hl [0] rfl)
set_option maxRecDepth 20000 in
theorem gX7_putOutAll_X7_sweep : GoodIn wuX7_putOutAll (wsV RX7 176 RX7 yX7_sweep wuX7_sweep) := gu_V mw_1053 mw_1055 mw_17 mw_170 mw_1056
set_option maxRecDepth 20000 in
theorem gX7_putOutAll_X7_nextOut : GoodIn wuX7_putOutAll (wsV RX7 204 RX7 yX7_nextOut wuX7_nextOut) := gu_V mw_1066 mw_1068 mw_18 mw_170 mw_1069
set_option maxRecDepth 20000 in
set_option maxRecDepth 20000 in
theorem gX7_putOutAll_X7_putOut : GoodIn wuX7_putOutAll (wsV RX7 207 RX7 yX7_putOut wuX7_putOut) := gu_V mw_1070 mw_1072 mw_19 mw_170 mw_1073
set_option maxRecDepth 20000 in
theorem dX7_putOutAll_0 : decode cX7_putOutAll 0 = .ok (.iconst 0, 1) := by decide +kernel
theorem dX7_putOutAll_1 : decode cX7_putOutAll 1 = .ok (.istore_n 1, 1) := by decide +kernel
theorem dX7_putOutAll_2 : decode cX7_putOutAll 2 = .ok (.iload_n 1, 1) := by decide +kernel
theorem dX7_putOutAll_3 : decode cX7_putOutAll 3 = .ok (.bipush 6, 2) := by decide +kernel
theorem dX7_putOutAll_5 : decode cX7_putOutAll 5 = .ok (.if_icmp .ge 23, 3) := by decide +kernel
theorem dX7_putOutAll_8 : decode cX7_putOutAll 8 = .ok (.aload_n 0, 1) := by decide +kernel
theorem dX7_putOutAll_9 : decode cX7_putOutAll 9 = .ok (.invokevirtual 204, 3) := by decide +kernel
theorem dX7_putOutAll_12 : decode cX7_putOutAll 12 = .ok (.astore_n 2, 1) := by decide +kernel
theorem dX7_putOutAll_13 : decode cX7_putOutAll 13 = .ok (.aload_n 2, 1) := by decide +kernel
theorem dX7_putOutAll_14 : decode cX7_putOutAll 14 = .ok (.ifnull 8, 3) := by decide +kernel
theorem dX7_putOutAll_17 : decode cX7_putOutAll 17 = .ok (.aload_n 0, 1) := by decide +kernel
theorem dX7_putOutAll_18 : decode cX7_putOutAll 18 = .ok (.aload_n 2, 1) := by decide +kernel
theorem dX7_putOutAll_19 : decode cX7_putOutAll 19 = .ok (.invokevirtual 207, 3) := by decide +kernel
theorem dX7_putOutAll_22 : decode cX7_putOutAll 22 = .ok (.iinc 1 1, 3) := by decide +kernel
theorem dX7_putOutAll_25 : decode cX7_putOutAll 25 = .ok (.goto (-23), 3) := by decide +kernel
theorem dX7_putOutAll_28 : decode cX7_putOutAll 28 = .ok (.aload_n 0, 1) := by decide +kernel
theorem dX7_putOutAll_29 : decode cX7_putOutAll 29 = .ok (.invokevirtual 176, 3) := by decide +kernel
theorem dX7_putOutAll_32 : decode cX7_putOutAll 32 = .ok (.return_, 1) := by decide +kernel
noncomputable def FX7_putOutAll (G : GG) (M : DD) (a : Nat)  : Option (NN × DD) :=
  bnd (itrA (fun (s2 : NN × Int32 × DD) => ((if ((6 : Int32)) ≤ s2.2.1 then (some ([], .inr ((s2.2.1, s2.2.2)))) else
  (bnd (FX7_nextOut (xt G s2.1) s2.2.2 a) fun y13 =>
  bnd (if y13.2 = none then (some ([], y13.1)) else
  (bnd (FX7_putOut (xt G s2.1) y13.1 a y13.2) fun y21 =>
  app y21.1 <|
  ltt (s2.1 ++ y21.1) fun L23 =>
  some ([], y21.2))) fun (y14 : NN × DD) =>
  app y14.1 <|
  ltt (s2.1 ++ y14.1) fun L16 =>
  ltt (s2.2.1 + (1 : Int32)) fun x18 =>
  some ([], .inl (L16, (x18, y14.2))))) : Option (NN × ((NN × Int32 × DD) ⊕ (Int32 × DD))))) 1000000 ([], ((0 : Int32), M))) fun (y1 : NN × Int32 × DD) =>
  app y1.1 <|
  ltt ([] ++ y1.1) fun L4 =>
  bnd (FX7_sweep (xt G L4) y1.2.2 a) fun y6 =>
  some ([], y6)
set_option maxHeartbeats 4000000 in
set_option maxRecDepth 100000 in
theorem kX7_putOutAll (l : Launch) (D : va_G) (ct : CT) (ad : Nat → Nat) (Z : Nat → Nat) (G : GG) (M : DD) (sz : Nat) (a : Nat)  (y : NN × DD) (hc : a < G.1) (hk : G.2.1 a = 7) (hF : FX7_putOutAll G M a  = some y) : Met l yX7_putOutAll wuX7_putOutAll ({ frames := 3, cells := y.1.length, slots := wt y.1, locals := 131 }) (va_Pc [.ref (ad a)] (kB D ct ad Z G M sz)) (va_Qv (fun (u : Nat → Nat) => agr G.1 ad u) (fun u t => kE D ct u (xt G y.1) (wA ad G sz) y.2 t) (wA ad G sz)) y.1.length (wt y.1) (wA ad G sz) := by
  refine Met.ofW (cc := cX7_putOutAll) (maxL := 3) (ret := none) (by decide) rfl ?_
  intro p e s m args below meth c s₁ B hml hv
  obtain ⟨rfl, hsz, hP, hK, hD0, hZ, hN⟩ := hv
  have hx := B.exec
  have hb := B.bytes
  have hr := B.returns
  have hts := atoms_spec (ws := wuX7_putOutAll) B.pre
  have hown : s.vm.findClass RX7 = some m.cls := findClass_of_methodNamed B.named
  have hlocks := B.notSynchronized
  subst hsz
  have hD := wD_self (sz := s.heap.size) hD0
  have hA9 : ∀ q, s.heap.size ≤ q → wA ad G s.heap.size q := fun q h => Or.inr h
  generalize hAe : wA ad G s.heap.size = A at hD hA9 hZ ⊢
  have hS : va_S A s.heap s.heap [] := va_S.rf
  have hl := lv_entry ([.ref (ad a)]) (n := 3) (Nat.le_of_ble_eq_true rfl)
  rw [lg_entry_eq]
  generalize (lg_sl ([.ref (ad a)]) ++ List.replicate (3 - (lg_sl ([.ref (ad a)])).length) Slot.unset).toArray = ls at hl ⊢
  have hl : lv_has ls 3 [(0, .ref (ad a))] := hl
  unfold FX7_putOutAll at hF
  rw [← wld_0 ct ad G M] at hP hD
  have hk := xt_k0 hc hk
  have hc := xt_l0 hc
  have hag := agr_rf G.1 ad
  obtain ⟨w0, hw0⟩ : ∃ z, z = y := ⟨_, rfl⟩
  rw [← hw0] at hF
  have hT : y.1 = [] ++ w0.1 := by rw [hw0]; rfl
  have h2 : y.2 = w0.2 := by rw [hw0]
  have hbl : y.1.length ≤ y.1.length ∧ wt y.1 ≤ wt y.1 := ⟨Nat.le_refl _, Nat.le_refl _⟩
  refine lv_iconst (v := (0 : Int32)) hx hb dX7_putOutAll_0 (by decide) ?_
  refine lv_istore_n (lv' := [(1, .int (0 : Int32)), (0, .ref (ad a))]) hx hb dX7_putOutAll_1 rfl hl (by decide) rfl (fun ls hl => ?_)
  obtain ⟨y1, hy1, hF⟩ := bnd_some hF
  obtain ⟨w3, hF, ew3⟩ := app_some hF
  obtain ⟨L4, eL4, hF⟩ := ltt_some hF
  have hT4 : y.1 = ([] ++ y1.1) ++ w3.1 := by rw [hT, ew3]; simp only [List.append_assoc]
  have hbl4 : L4.length ≤ y.1.length ∧ wt L4 ≤ wt y.1 := by rw [eL4]; exact room_d hT4 hbl
  have K1 : ∀ (ad5 : Nat → Nat), agr G.1 ad ad5 → ∀ (H : Heap) (locs : List Loc) (ls : Array Slot), va_P D classes (wld ct ad5 (xt G L4) y1.2.2) H → va_D A (wld ct ad5 (xt G L4) y1.2.2) → va_S A s.heap H locs → lv_has ls 3 [(0, .ref (ad5 a))] → W p l e (headSpec wuX7_putOutAll ({ frames := 3, cells := y.1.length, slots := wt y.1, locals := 131 })).room s m ([.ref (ad a)] : List Value).toArray below meth c H locs (L4 : NN).length (wt L4) (MQ below (va_Qv (fun (u : Nat → Nat) => agr G.1 ad u) (fun u t => kE D ct u (xt G y.1) A y.2 t) A) ([.ref (ad a)] : List Value).toArray s y.1.length (wt y.1) A) (F0 m 28 ls []) := by
    intro ad5 hag H locs ls hP hD hS hl
    have hT : y.1 = L4 ++ w3.1 := by rw [hT4, eL4]
    have h2 : y.2 = w3.2 := by rw [h2, ew3]
    have hk : (xt G L4).2.1 a = 7 := by rw [eL4]; exact xt_k _ hc hk
    have hc : a < (xt G L4).1 := by rw [eL4]; exact xt_l _ hc
    refine lv_aload_n hx hb dX7_putOutAll_28 rfl (lv_at hl 0 rfl) ?_
    obtain ⟨y6, hy6, hF⟩ := bnd_some hF
    have hf9 := wA_in hD hA9 hS
    refine va_callv (va_runV (As := []) (rest := []) ⟨hx, hb, hml, hown, hts⟩ (kX7_sweep l D ct ad5 Z (xt G L4) y1.2.2 H.size a y6 hc hk hy6) (cwV 0 hts gX7_putOutAll_X7_sweep rfl rfl rfl (by decide +kernel) ⟨Nat.le_of_ble_eq_true rfl, Nat.le_of_ble_eq_true rfl⟩) ⟨fun a U g mk q => by obtain ⟨q0, q1, qP, qK, qD, qZ, qN⟩ := q; exact ⟨q0, q1, qP, va_K.moved (u := U) (U := U.calling g mk a) (Vm.Alike.refl U.vm) qK, qD, sF.moved (u := U) (U := U.calling g mk a) (Vm.Alike.refl U.vm) qZ, nF.same rfl qN⟩, va_recv hK hP (ci := 7) (q0 := a) rfl (wld_o ct ad5 (xt G L4) y1.2.2 hc hk (by decide)), fun U hU hW => ⟨rfl, by rw [hU], by rw [hU]; exact hP, va_K.moved hW.alike hK, hD.weaken (fun _ _ _ _ => trivial), by rw [hU]; exact ((hZ.kept hS.2.1).narrow hf9).moved hW.alike, hN.warm hW⟩⟩ rfl rfl hl.1 rfl (lv_room (Nat.le_of_ble_eq_true rfl)) dX7_putOutAll_29 (room_d hT hbl)) hS (fun q _ h => hf9 q h) hf9 (fun u t H locs ht hvm hw hB hz1 hk1 hS => ?_)
    obtain ⟨hP, hK9, hD9⟩ := hB
    rw [ht] at hP
    refine W_cs (k := (L4 : NN).length) (n := wt L4) rfl rfl ?_
    have hD := hD9.weaken (fun _ q _ h => hf9 q.1 h)
    obtain rfl := Option.some.inj hF
    have e1 : y.1 = L4 := by rw [hT]; exact List.append_nil _
    have e2 : y.2 = y6 := h2
    refine W.widen (k := y.1.length) (n := wt y.1) (Nat.le_of_eq (by rw [e1])) (Nat.le_of_eq (by rw [e1])) ?_
    exact W.vret hx hb hr (fun t ht hW => ⟨⟨ad5, rfl, hag, (by unfold kE; rw [e1, e2]; exact ⟨by rw [ht]; exact hP, va_K.moved hW.alike hK, hD⟩)⟩, hS.F ht⟩) hS.2.2 dX7_putOutAll_32
  clear hF
  refine itrA_rule (fun (s2 : NN × Int32 × DD) (r8 : NN) => (∃ t, s2.1 = [] ++ t) → L4 = s2.1 ++ r8 → ∀ (ad7 : Nat → Nat), agr G.1 ad ad7 → ∀ (H : Heap) (locs : List Loc) (ls : Array Slot), va_P D classes (wld ct ad7 (xt G s2.1) s2.2.2) H → va_D A (wld ct ad7 (xt G s2.1) s2.2.2) → va_S A s.heap H locs → lv_has ls 3 [(1, .int s2.2.1), (0, .ref (ad7 a))] → W p l e (headSpec wuX7_putOutAll ({ frames := 3, cells := y.1.length, slots := wt y.1, locals := 131 })).room s m ([.ref (ad a)] : List Value).toArray below meth c H locs (s2.1 : NN).length (wt s2.1) (MQ below (va_Qv (fun (u : Nat → Nat) => agr G.1 ad u) (fun u t => kE D ct u (xt G y.1) A y.2 t) A) ([.ref (ad a)] : List Value).toArray s y.1.length (wt y.1) A) (F0 m 2 ls [])) ?_ _ _ _ hy1 ⟨[], (List.append_nil _).symm⟩ eL4 _ hag _ _ _ hP hD hS (lv_sub hl [0, 1] rfl)
  rintro s2 r8 ⟨z9, hF, ⟨t1, et1⟩, hwz9⟩ ⟨u1, eu1⟩ eq1 ad7 hag H locs ls hP hD hS hl
  try dsimp only at hF
  obtain ⟨L10, eL10⟩ : ∃ x, x = s2.1 ++ z9.1 := ⟨_, rfl⟩
  obtain ⟨w11, hw11⟩ : ∃ x, x = z9 := ⟨_, rfl⟩
  rw [← hw11] at hF
  have hbl : L10.length ≤ y.1.length ∧ wt L10 ≤ wt y.1 := room_d (show L4 = L10 ++ t1 by rw [eq1, et1, eL10]; simp only [List.append_assoc]) hbl4
  have hT : L10 = s2.1 ++ w11.1 := by rw [eL10, hw11]
  have h2 : z9.2 = w11.2 := by rw [hw11]
  have hk : (xt G s2.1).2.1 a = 7 := by rw [eu1]; exact xt_k _ hc hk
  have hc : a < (xt G s2.1).1 := by rw [eu1]; exact xt_l _ hc
  refine lv_iload_n hx hb dX7_putOutAll_2 rfl (lv_at hl 0 rfl) ?_
  refine lv_bipush (v := (6 : Int32)) hx hb dX7_putOutAll_3 (by decide) ?_
  refine lv_icmp_ge (tgt := 28) hx hb dX7_putOutAll_5 (by decide) (fun c12 => ?_) (fun c12 => ?_)
  · rw [if_pos c12] at hF
    obtain rfl := Option.some.inj hF
    have e1 : L10 = s2.1 := by rw [hT]; exact List.append_nil _
    have e2 : z9.2 = .inr ((s2.2.1, s2.2.2)) := h2
    rw [e2] at hwz9
    obtain ⟨hw1, hw2⟩ := hwz9
    have e8 : L4 = s2.1 := by rw [eq1, hw2, ← eL10, e1]
    rw [e8] at K1
    try rw [← hw1] at K1
    exact K1 _ hag _ _ _ hP hD hS (lv_sub hl [1] rfl)
  · rw [if_neg c12] at hF
    refine lv_aload_n hx hb dX7_putOutAll_8 rfl (lv_at hl 1 rfl) ?_
    obtain ⟨y13, hy13, hF⟩ := bnd_some hF
    have hf9 := wA_in hD hA9 hS
    refine va_calle (va_runV (As := []) (rest := []) ⟨hx, hb, hml, hown, hts⟩ (kX7_nextOut l D ct ad7 Z (xt G s2.1) s2.2.2 H.size a y13 hc hk hy13) (cwV 0 hts gX7_putOutAll_X7_nextOut rfl rfl rfl (by decide +kernel) ⟨Nat.le_of_ble_eq_true rfl, Nat.le_of_ble_eq_true rfl⟩) ⟨fun a U g mk q => by obtain ⟨q0, q1, qP, qK, qD, qZ, qN⟩ := q; exact ⟨q0, q1, qP, va_K.moved (u := U) (U := U.calling g mk a) (Vm.Alike.refl U.vm) qK, qD, sF.moved (u := U) (U := U.calling g mk a) (Vm.Alike.refl U.vm) qZ, nF.same rfl qN⟩, va_recv hK hP (ci := 7) (q0 := a) rfl (wld_o ct ad7 (xt G s2.1) s2.2.2 hc hk (by decide)), fun U hU hW => ⟨rfl, by rw [hU], by rw [hU]; exact hP, va_K.moved hW.alike hK, hD.weaken (fun _ _ _ _ => trivial), by rw [hU]; exact ((hZ.kept hS.2.1).narrow hf9).moved hW.alike, hN.warm hW⟩⟩ rfl rfl hl.1 rfl (lv_room (Nat.le_of_ble_eq_true rfl)) dX7_putOutAll_9 (room_d hT hbl)) hS (fun q _ h => hf9 q h) hf9 (fun r u t H locs ht hvm hw hB hz1 hk1 hS => ?_)
    obtain ⟨hP, hK9, hD9⟩ := hB
    rw [ht] at hP
    try dsimp only at hw
    subst hw
    refine W_cs (k := (s2.1 : NN).length) (n := wt s2.1) rfl rfl ?_
    have hD := hD9.weaken (fun _ q _ h => hf9 q.1 h)
    refine lv_astoreq_n (lv' := [(2, va_re ad7 y13.2), (1, .int s2.2.1), (0, .ref (ad7 a))]) hx hb dX7_putOutAll_12 rfl hl (by decide) rfl (fun ls hl => ?_)
    refine lv_aloadq_n hx hb dX7_putOutAll_13 rfl (lv_at hl 0 rfl) ?_
    obtain ⟨y14, hy14, hF⟩ := bnd_some hF
    obtain ⟨w15, hF, ew15⟩ := app_some hF
    obtain ⟨L16, eL16, hF⟩ := ltt_some hF
    have hT16 : L10 = (s2.1 ++ y14.1) ++ w15.1 := by rw [hT, ew15]; simp only [List.append_assoc]
    have hbl16 : L16.length ≤ y.1.length ∧ wt L16 ≤ wt y.1 := by rw [eL16]; exact room_d hT16 hbl
    have J14 : ∀ (ad17 : Nat → Nat), agr G.1 ad ad17 → ∀ (H : Heap) (locs : List Loc) (ls : Array Slot), va_P D classes (wld ct ad17 (xt G L16) y14.2) H → va_D A (wld ct ad17 (xt G L16) y14.2) → va_S A s.heap H locs → lv_has ls 3 [(1, .int s2.2.1), (0, .ref (ad17 a))] → W p l e (headSpec wuX7_putOutAll ({ frames := 3, cells := y.1.length, slots := wt y.1, locals := 131 })).room s m ([.ref (ad a)] : List Value).toArray below meth c H locs (L16 : NN).length (wt L16) (MQ below (va_Qv (fun (u : Nat → Nat) => agr G.1 ad u) (fun u t => kE D ct u (xt G y.1) A y.2 t) A) ([.ref (ad a)] : List Value).toArray s y.1.length (wt y.1) A) (F0 m 22 ls []) := by
      intro ad17 hag H locs ls hP hD hS hl
      have hT : L10 = L16 ++ w15.1 := by rw [hT16, eL16]
      have h2 : z9.2 = w15.2 := by rw [h2, ew15]
      have hk : (xt G L16).2.1 a = 7 := by rw [eL16]; exact xt_k _ hc hk
      have hc : a < (xt G L16).1 := by rw [eL16]; exact xt_l _ hc
      obtain ⟨x18, ex18, hF⟩ := ltt_some hF
      refine lv_iinc (v := x18) (lv' := [(1, .int x18), (0, .ref (ad17 a))]) hx hb dX7_putOutAll_22 hl (k := 0) rfl (by rw [ex18]; rfl) (by decide) rfl (fun ls hl => ?_)
      refine lv_goto (tgt := 2) hx hb dX7_putOutAll_25 (by decide) ?_
      obtain rfl := Option.some.inj hF
      have e1 : L10 = L16 := by rw [hT]; exact List.append_nil _
      have e2 : z9.2 = .inl (L16, (x18, y14.2)) := h2
      rw [e2] at hwz9
      obtain ⟨r2, er2, hwz9⟩ := hwz9
      exact hwz9 ⟨u1 ++ z9.1, by show L16 = _; rw [← e1, eL10, eu1]; simp only [List.append_assoc]⟩ (by show L4 = L16 ++ r2; rw [eq1, er2, ← e1, eL10]; simp only [List.append_assoc]) _ hag _ _ _ hP hD hS (lv_sub hl [0, 1] rfl)
    clear hF
    obtain ⟨w19, hw19⟩ : ∃ z, z = y14 := ⟨_, rfl⟩
    have hF := hy14
    rw [← hw19] at hF
    clear hy14
    have hT : L16 = s2.1 ++ w19.1 := by rw [eL16, hw19]
    have h2 : y14.2 = w19.2 := by rw [hw19]
    have hbl := hbl16
    refine lv_ifnullq (tgt := 22) hx hb dX7_putOutAll_14 (by decide) (fun c20 => ?_) (fun c20 => ?_)
    · rw [if_pos c20] at hF
      obtain rfl := Option.some.inj hF
      have e1 : L16 = s2.1 := by rw [hT]; exact List.append_nil _
      have e2 : y14.2 = y13.1 := h2
      rw [e1] at J14
      try rw [e2] at J14
      exact J14 _ hag _ _ _ hP hD hS (lv_sub hl [1, 2] rfl)
    · rw [if_neg c20] at hF
      refine lv_aload_n hx hb dX7_putOutAll_17 rfl (lv_at hl 2 rfl) ?_
      refine lv_aloadq_n hx hb dX7_putOutAll_18 rfl (lv_at hl 0 rfl) ?_
      obtain ⟨y21, hy21, hF⟩ := bnd_some hF
      obtain ⟨w22, hF, ew22⟩ := app_some hF
      obtain ⟨L23, eL23, hF⟩ := ltt_some hF
      have hT23 : L16 = (s2.1 ++ y21.1) ++ w22.1 := by rw [hT, ew22]; simp only [List.append_assoc]
      have hf9 := wA_in hD hA9 hS
      refine va_callv (va_runV (As := [va_re ad7 y13.2]) (rest := []) ⟨hx, hb, hml, hown, hts⟩ (kX7_putOut l D ct ad7 Z (xt G s2.1) y13.1 _ a y13.2 y21 hc hk hy21) (cwV 1 hts gX7_putOutAll_X7_putOut rfl rfl rfl (by decide +kernel) ⟨Nat.le_of_ble_eq_true rfl, Nat.le_of_ble_eq_true rfl⟩) ⟨fun a U g mk q => by obtain ⟨q0, q1, qP, qK, qD, qZ, qN⟩ := q; exact ⟨q0, q1, qP, va_K.moved (u := U) (U := U.calling g mk a) (Vm.Alike.refl U.vm) qK, qD, sF.moved (u := U) (U := U.calling g mk a) (Vm.Alike.refl U.vm) qZ, nF.same rfl qN⟩, va_recv hK hP (ci := 7) (q0 := a) rfl (wld_o ct ad7 (xt G s2.1) y13.1 hc hk (by decide)), fun U hU hW => ⟨rfl, by rw [hU], by rw [hU]; exact hP, va_K.moved hW.alike hK, hD.weaken (fun _ _ _ _ => trivial), by rw [hU]; exact ((hZ.kept hS.2.1).narrow hf9).moved hW.alike, hN.warm hW⟩⟩ rfl rfl hl.1 rfl (lv_room (Nat.le_of_ble_eq_true rfl)) dX7_putOutAll_19 (room_s hT23 hbl)) hS (fun q _ h => hf9 q h) hf9 (fun ad24 t H locs ht hvm hw hB hz1 hk1 hS => ?_)
      have hn25 := hw
      obtain ⟨hP, hK9, hD9⟩ := hB
      rw [ht] at hP
      have hD := hD9.weaken (fun _ q _ h => hf9 q.1 h)
      rw [xt_xt, ← eL23] at hP hD
      refine W_cs (k := L23.length) (n := wt L23) (by rw [eL23]; exact (len_s s2.1 y21.1).symm) (by rw [eL23]; exact (wt_app s2.1 y21.1).symm) ?_
      have hT : L16 = L23 ++ w22.1 := by rw [hT23, eL23]
      have h2 : y14.2 = w22.2 := by rw [h2, ew22]
      have hl := lv_sub (l' := [(1, .int s2.2.1), (0, .ref (ad7 a))]) hl [1, 2] rfl
      have e9 : ([(1, .int s2.2.1), (0, .ref (ad7 a))] : List (Nat × Value)) = [(1, .int s2.2.1), (0, .ref (ad24 a))] := (by first | rfl | simp only [hn25 a hc])
      rw [e9] at hl
      clear e9
      have hk : (xt G L23).2.1 a = 7 := by rw [eL23]; exact xt_k _ hc hk
      have hc : a < (xt G L23).1 := by rw [eL23]; exact xt_l _ hc
      have hag := agr_t (xt_ge _ _) hag hn25
      obtain rfl := Option.some.inj hF
      have e1 : L16 = L23 := by rw [hT]; exact List.append_nil _
      have e2 : y14.2 = y21.2 := h2
      rw [e1] at J14
      try rw [e2] at J14
      exact J14 _ hag _ _ _ hP hD hS (lv_sub hl [0, 1] rfl)
set_option maxRecDepth 20000 in
theorem gX7_sumOf_X7_planeAt : GoodIn wuX7_sumOf (wsV RX7 274 RX7 yX7_planeAt wuX7_planeAt) := gu_V mw_2335 mw_2337 mw_111 mw_170 mw_2338
set_option maxRecDepth 20000 in
set_option maxRecDepth 20000 in
theorem gX7_sumOf_X7_wide : GoodIn wuX7_sumOf (wsV RX7 256 RX7 yX7_wide wuX7_wide) := gu_V mw_1082 mw_1083 mw_1084 mw_170 mw_1085
set_option maxRecDepth 20000 in
set_option maxRecDepth 20000 in
theorem gX7_sumOf_X7_high : GoodIn wuX7_sumOf (wsV RX7 260 RX7 yX7_high wuX7_high) := gu_V mw_1086 mw_1087 mw_1088 mw_170 mw_1089
set_option maxRecDepth 20000 in
set_option maxRecDepth 20000 in
theorem gX7_sumOf_X11_hash_n280 : GoodIn wuX7_sumOf wuX11_hash := gu_P mw_2341
theorem dX7_sumOf_0 : decode cX7_sumOf 0 = .ok (.aload_n 0, 1) := by decide +kernel
theorem dX7_sumOf_1 : decode cX7_sumOf 1 = .ok (.getfield 22, 3) := by decide +kernel
theorem dX7_sumOf_4 : decode cX7_sumOf 4 = .ok (.iload_n 1, 1) := by decide +kernel
theorem dX7_sumOf_5 : decode cX7_sumOf 5 = .ok (.aaload, 1) := by decide +kernel
theorem dX7_sumOf_6 : decode cX7_sumOf 6 = .ok (.aload_n 0, 1) := by decide +kernel
theorem dX7_sumOf_7 : decode cX7_sumOf 7 = .ok (.iload_n 1, 1) := by decide +kernel
theorem dX7_sumOf_8 : decode cX7_sumOf 8 = .ok (.iload_n 2, 1) := by decide +kernel
theorem dX7_sumOf_9 : decode cX7_sumOf 9 = .ok (.invokevirtual 274, 3) := by decide +kernel
theorem dX7_sumOf_12 : decode cX7_sumOf 12 = .ok (.aload_n 0, 1) := by decide +kernel
theorem dX7_sumOf_13 : decode cX7_sumOf 13 = .ok (.iload_n 1, 1) := by decide +kernel
theorem dX7_sumOf_14 : decode cX7_sumOf 14 = .ok (.iload_n 2, 1) := by decide +kernel
theorem dX7_sumOf_15 : decode cX7_sumOf 15 = .ok (.invokevirtual 256, 3) := by decide +kernel
theorem dX7_sumOf_18 : decode cX7_sumOf 18 = .ok (.aload_n 0, 1) := by decide +kernel
theorem dX7_sumOf_19 : decode cX7_sumOf 19 = .ok (.iload_n 1, 1) := by decide +kernel
theorem dX7_sumOf_20 : decode cX7_sumOf 20 = .ok (.iload_n 2, 1) := by decide +kernel
theorem dX7_sumOf_21 : decode cX7_sumOf 21 = .ok (.invokevirtual 260, 3) := by decide +kernel
theorem dX7_sumOf_24 : decode cX7_sumOf 24 = .ok (.imul, 1) := by decide +kernel
theorem dX7_sumOf_25 : decode cX7_sumOf 25 = .ok (.invokestatic 280, 3) := by decide +kernel
theorem dX7_sumOf_28 : decode cX7_sumOf 28 = .ok (.ireturn, 1) := by decide +kernel
def FX7_sumOf (G : GG) (M : DD) (a : Nat) (p0 : Int32) (p1 : Int32) : Option (DD × Int32) :=
  dr G 15 ((M.2 a 15)) fun b2 =>
  chk (¬ (p0 < 0 ∨ G.2.2 b2 ≤ p0.toNatClampNeg)) <|
  bnd (FX7_planeAt G M a p0 p1) fun y3 =>
  bnd (FX7_wide G y3.1 a p0 p1) fun y4 =>
  bnd (FX7_high G y4.1 a p0 p1) fun y5 =>
  ltt ((y4.2 * y5.2)) fun x6 =>
  bnd (FX11_hash G y5.1 ((M.2 b2 p0.toNatClampNeg)) y3.2 x6) fun y7 =>
  some (y7.1, y7.2)
set_option maxHeartbeats 4000000 in
set_option maxRecDepth 100000 in
theorem kX7_sumOf (l : Launch) (D : va_G) (ct : CT) (ad : Nat → Nat) (Z : Nat → Nat) (G : GG) (M : DD) (sz : Nat) (a : Nat) (p0 : Int32) (p1 : Int32) (y : DD × Int32) (hc : a < G.1) (hk : G.2.1 a = 7) (hF : FX7_sumOf G M a p0 p1 = some y) : Met l yX7_sumOf wuX7_sumOf ({ frames := 2, cells := 0, slots := 0, locals := 45 }) (va_Pc [.ref (ad a), .int p0, .int p1] (kB D ct ad Z G M sz)) (va_Qi (fun (q : Int32) (_ : Unit) => q = y.2) (fun _ t => kE D ct ad G (wA ad G sz) y.1 t) (wA ad G sz)) 0 0 (wA ad G sz) := by
  refine Met.ofW (cc := cX7_sumOf) (maxL := 3) (ret := (some .int)) (by decide) rfl ?_
  intro p e s m args below meth c s₁ B hml hv
  obtain ⟨rfl, hsz, hP, hK, hD0, hZ, hN⟩ := hv
  have hx := B.exec
  have hb := B.bytes
  have hr := B.returns
  have hts := atoms_spec (ws := wuX7_sumOf) B.pre
  have hown : s.vm.findClass RX7 = some m.cls := findClass_of_methodNamed B.named
  have hlocks := B.notSynchronized
  subst hsz
  have hD := wD_self (sz := s.heap.size) hD0
  have hA9 : ∀ q, s.heap.size ≤ q → wA ad G s.heap.size q := fun q h => Or.inr h
  generalize hAe : wA ad G s.heap.size = A at hD hA9 hZ ⊢
  have hS : va_S A s.heap s.heap [] := va_S.rf
  have hl := lv_entry ([.ref (ad a), .int p0, .int p1]) (n := 3) (Nat.le_of_ble_eq_true rfl)
  rw [lg_entry_eq]
  generalize (lg_sl ([.ref (ad a), .int p0, .int p1]) ++ List.replicate (3 - (lg_sl ([.ref (ad a), .int p0, .int p1])).length) Slot.unset).toArray = ls at hl ⊢
  have hl : lv_has ls 3 [(0, .ref (ad a)), (1, .int p0), (2, .int p1)] := hl
  unfold FX7_sumOf at hF
  refine lv_aload_n hx hb dX7_sumOf_0 rfl (lv_at hl 0 rfl) ?_
  refine va_get (D := D) (ci := 7) (v := va_re ad (M.2 a 15)) (C := RX7) (T := TX7) (N := 17) hx hb hts (mus hf_X7) hown hK hP a (wld_o ct ad G M hc hk (by decide)) rfl 15 (by decide) (hts (.fieldLink RX7 22 "VideoSuite$Store" "outSample" "[[I") (mu mw_375)) (fun _ h9 => h9) rfl dX7_sumOf_1 ?_
  refine lv_iload_n hx hb dX7_sumOf_4 rfl (lv_at hl 1 rfl) ?_
  obtain ⟨b2, ho2, hc2, hk2, hF⟩ := dr_some hF
  refine W_st (st' := [.int p0, .ref (ad b2)]) (by rw [va_some ho2]) ?_
  obtain ⟨hvc, hF⟩ := chk_some hF
  refine ld_g hx hb hK hP hc2 hk2 hvc dX7_sumOf_5 ?_
  refine lv_aload_n hx hb dX7_sumOf_6 rfl (lv_at hl 0 rfl) ?_
  refine lv_iload_n hx hb dX7_sumOf_7 rfl (lv_at hl 1 rfl) ?_
  refine lv_iload_n hx hb dX7_sumOf_8 rfl (lv_at hl 2 rfl) ?_
  obtain ⟨y3, hy3, hF⟩ := bnd_some hF
  have hf9 := wA_in hD hA9 hS
  refine va_calli (va_runV (As := [.int p0, .int p1]) (rest := [va_re ad (M.2 b2 p0.toNatClampNeg)]) ⟨hx, hb, hml, hown, hts⟩ (kX7_planeAt l D ct ad Z G M s.heap.size a p0 p1 y3 hc hk hy3) (cwV 2 hts gX7_sumOf_X7_planeAt rfl rfl rfl (by decide +kernel) ⟨Nat.le_of_ble_eq_true rfl, Nat.le_of_ble_eq_true rfl⟩) ⟨fun a U g mk q => by obtain ⟨q0, q1, qP, qK, qD, qZ, qN⟩ := q; exact ⟨q0, q1, qP, va_K.moved (u := U) (U := U.calling g mk a) (Vm.Alike.refl U.vm) qK, qD, sF.moved (u := U) (U := U.calling g mk a) (Vm.Alike.refl U.vm) qZ, nF.same rfl qN⟩, va_recv hK hP (ci := 7) (q0 := a) rfl (wld_o ct ad G M hc hk (by decide)), fun U hU hW => ⟨rfl, by rw [hU], by rw [hU]; exact hP, va_K.moved hW.alike hK, hD.weaken (fun _ _ _ _ => trivial), by rw [hU]; exact ((hZ.kept hS.2.1).narrow hf9).moved hW.alike, hN.warm hW⟩⟩ rfl rfl hl.1 rfl (lv_room (by simp only [List.map, va_re_cat]; exact Nat.le_of_ble_eq_true rfl)) dX7_sumOf_9 ⟨(Nat.zero_le _), (Nat.zero_le _)⟩) hS (fun q _ h => hf9 q h) hf9 (fun r u t H locs ht hvm hw hB hz1 hk1 hS => ?_)
  obtain ⟨hP, hK9, hD9⟩ := hB
  rw [ht] at hP
  try dsimp only at hw
  subst hw
  have hD := hD9.weaken (fun _ q _ h => hf9 q.1 h)
  refine lv_aload_n hx hb dX7_sumOf_12 rfl (lv_at hl 0 rfl) ?_
  refine lv_iload_n hx hb dX7_sumOf_13 rfl (lv_at hl 1 rfl) ?_
  refine lv_iload_n hx hb dX7_sumOf_14 rfl (lv_at hl 2 rfl) ?_
  obtain ⟨y4, hy4, hF⟩ := bnd_some hF
  have hf9 := wA_in hD hA9 hS
  refine va_calli (va_runV (As := [.int p0, .int p1]) (rest := [.int y3.2, va_re ad (M.2 b2 p0.toNatClampNeg)]) ⟨hx, hb, hml, hown, hts⟩ (kX7_wide l D ct ad Z G y3.1 H.size a p0 p1 y4 hc hk hy4) (cwV 2 hts gX7_sumOf_X7_wide rfl rfl rfl (by decide +kernel) ⟨Nat.le_of_ble_eq_true rfl, Nat.le_of_ble_eq_true rfl⟩) ⟨fun a U g mk q => by obtain ⟨q0, q1, qP, qK, qD, qZ, qN⟩ := q; exact ⟨q0, q1, qP, va_K.moved (u := U) (U := U.calling g mk a) (Vm.Alike.refl U.vm) qK, qD, sF.moved (u := U) (U := U.calling g mk a) (Vm.Alike.refl U.vm) qZ, nF.same rfl qN⟩, va_recv hK hP (ci := 7) (q0 := a) rfl (wld_o ct ad G y3.1 hc hk (by decide)), fun U hU hW => ⟨rfl, by rw [hU], by rw [hU]; exact hP, va_K.moved hW.alike hK, hD.weaken (fun _ _ _ _ => trivial), by rw [hU]; exact ((hZ.kept hS.2.1).narrow hf9).moved hW.alike, hN.warm hW⟩⟩ rfl rfl hl.1 rfl (lv_room (by simp only [List.map, va_re_cat]; exact Nat.le_of_ble_eq_true rfl)) dX7_sumOf_15 ⟨(Nat.zero_le _), (Nat.zero_le _)⟩) hS (fun q _ h => hf9 q h) hf9 (fun r u t H locs ht hvm hw hB hz1 hk1 hS => ?_)
  obtain ⟨hP, hK9, hD9⟩ := hB
  rw [ht] at hP
  try dsimp only at hw
  subst hw
  have hD := hD9.weaken (fun _ q _ h => hf9 q.1 h)
  refine lv_aload_n hx hb dX7_sumOf_18 rfl (lv_at hl 0 rfl) ?_
  refine lv_iload_n hx hb dX7_sumOf_19 rfl (lv_at hl 1 rfl) ?_
  refine lv_iload_n hx hb dX7_sumOf_20 rfl (lv_at hl 2 rfl) ?_
  obtain ⟨y5, hy5, hF⟩ := bnd_some hF
  have hf9 := wA_in hD hA9 hS
  refine va_calli (va_runV (As := [.int p0, .int p1]) (rest := [.int y4.2, .int y3.2, va_re ad (M.2 b2 p0.toNatClampNeg)]) ⟨hx, hb, hml, hown, hts⟩ (kX7_high l D ct ad Z G y4.1 H.size a p0 p1 y5 hc hk hy5) (cwV 2 hts gX7_sumOf_X7_high rfl rfl rfl (by decide +kernel) ⟨Nat.le_of_ble_eq_true rfl, Nat.le_of_ble_eq_true rfl⟩) ⟨fun a U g mk q => by obtain ⟨q0, q1, qP, qK, qD, qZ, qN⟩ := q; exact ⟨q0, q1, qP, va_K.moved (u := U) (U := U.calling g mk a) (Vm.Alike.refl U.vm) qK, qD, sF.moved (u := U) (U := U.calling g mk a) (Vm.Alike.refl U.vm) qZ, nF.same rfl qN⟩, va_recv hK hP (ci := 7) (q0 := a) rfl (wld_o ct ad G y4.1 hc hk (by decide)), fun U hU hW => ⟨rfl, by rw [hU], by rw [hU]; exact hP, va_K.moved hW.alike hK, hD.weaken (fun _ _ _ _ => trivial), by rw [hU]; exact ((hZ.kept hS.2.1).narrow hf9).moved hW.alike, hN.warm hW⟩⟩ rfl rfl hl.1 rfl (lv_room (by simp only [List.map, va_re_cat]; exact Nat.le_of_ble_eq_true rfl)) dX7_sumOf_21 ⟨(Nat.zero_le _), (Nat.zero_le _)⟩) hS (fun q _ h => hf9 q h) hf9 (fun r u t H locs ht hvm hw hB hz1 hk1 hS => ?_)
  obtain ⟨hP, hK9, hD9⟩ := hB
  rw [ht] at hP
  try dsimp only at hw
  subst hw
  have hD := hD9.weaken (fun _ q _ h => hf9 q.1 h)
  refine lv_imul hx hb dX7_sumOf_24 ?_
  obtain ⟨x6, ex6, hF⟩ := ltt_some hF
  refine lv_topi (fun zx6 ezx6 => ?_)
  obtain rfl : x6 = zx6 := ex6.trans ezx6.symm
  obtain ⟨y7, hy7, hF⟩ := bnd_some hF
  have hf9 := wA_in hD hA9 hS
  refine va_calli (va_runSN (As := [va_re ad (M.2 b2 p0.toNatClampNeg), .int y3.2, .int x6]) (rest := []) ⟨hx, hb, hml, hown, hts⟩ (kX11_hash l D ct ad Z G y5.1 H.size ((M.2 b2 p0.toNatClampNeg)) y3.2 x6 y7 hy7) ⟨va_cnB 3 hts gX7_sumOf_X11_hash_n280 rfl rfl rfl (hN.1 (RX7, 280, yX11_hash, RX11) (List.mem_of_getElem? (i := 21) rfl)) (hts (.initialized RX11) (mu mw_166)) (by decide +kernel) ⟨Nat.le_of_ble_eq_true rfl, Nat.le_of_ble_eq_true rfl⟩, hts (.static yX11_hash) (mu mw_2340), trivial⟩ ⟨fun a U g mk q => by obtain ⟨q0, q1, qP, qK, qD, qZ, qN⟩ := q; exact ⟨q0, q1, qP, va_K.moved (u := U) (U := U.calling g mk a) (Vm.Alike.refl U.vm) qK, qD, sF.moved (u := U) (U := U.calling g mk a) (Vm.Alike.refl U.vm) qZ, nF.same rfl qN⟩, fun U hU hW => ⟨rfl, by rw [hU], by rw [hU]; exact hP, va_K.moved hW.alike hK, hD.weaken (fun _ _ _ _ => trivial), by rw [hU]; exact ((hZ.kept hS.2.1).narrow hf9).moved hW.alike, hN.warm hW⟩⟩ rfl rfl hl.1 rfl (lv_room (Nat.le_of_ble_eq_true rfl)) dX7_sumOf_25 ⟨(Nat.zero_le _), (Nat.zero_le _)⟩) hS (fun q _ h => hf9 q h) hf9 (fun r u t H locs ht hvm hw hB hz1 hk1 hS => ?_)
  obtain ⟨hP, hK9, hD9⟩ := hB
  rw [ht] at hP
  try dsimp only at hw
  subst hw
  have hD := hD9.weaken (fun _ q _ h => hf9 q.1 h)
  obtain rfl := Option.some.inj hF
  exact W.iret (v := y7.2) hx hb hr (fun t ht hW => ⟨⟨_, (), rfl, rfl, ⟨by rw [ht]; exact hP, va_K.moved hW.alike hK, hD⟩⟩, hS.F ht⟩) hS.2.2 dX7_sumOf_28
set_option maxRecDepth 20000 in
theorem gX8_cutByLengths_X8_note : GoodIn wuX8_cutByLengths (wsV RX8 52 RX8 yX8_note wuX8_note) := gu_V mw_2748 mw_2750 mw_158 mw_167 mw_2751
theorem dX8_cutByLengths_0 : decode cX8_cutByLengths 0 = .ok (.iload_n 2, 1) := by decide +kernel
theorem dX8_cutByLengths_1 : decode cX8_cutByLengths 1 = .ok (.istore 5, 2) := by decide +kernel
theorem dX8_cutByLengths_3 : decode cX8_cutByLengths 3 = .ok (.iload 5, 2) := by decide +kernel
theorem dX8_cutByLengths_5 : decode cX8_cutByLengths 5 = .ok (.iload_n 3, 1) := by decide +kernel
theorem dX8_cutByLengths_6 : decode cX8_cutByLengths 6 = .ok (.if_icmp .ge 103, 3) := by decide +kernel
theorem dX8_cutByLengths_9 : decode cX8_cutByLengths 9 = .ok (.iload_n 3, 1) := by decide +kernel
theorem dX8_cutByLengths_10 : decode cX8_cutByLengths 10 = .ok (.iload 5, 2) := by decide +kernel
theorem dX8_cutByLengths_12 : decode cX8_cutByLengths 12 = .ok (.isub, 1) := by decide +kernel
theorem dX8_cutByLengths_13 : decode cX8_cutByLengths 13 = .ok (.iload 4, 2) := by decide +kernel
theorem dX8_cutByLengths_15 : decode cX8_cutByLengths 15 = .ok (.if_icmp .ge 5, 3) := by decide +kernel
theorem dX8_cutByLengths_18 : decode cX8_cutByLengths 18 = .ok (.iconst 0, 1) := by decide +kernel
theorem dX8_cutByLengths_19 : decode cX8_cutByLengths 19 = .ok (.ireturn, 1) := by decide +kernel
theorem dX8_cutByLengths_20 : decode cX8_cutByLengths 20 = .ok (.lconst 0, 1) := by decide +kernel
theorem dX8_cutByLengths_21 : decode cX8_cutByLengths 21 = .ok (.lstore 6, 2) := by decide +kernel
theorem dX8_cutByLengths_23 : decode cX8_cutByLengths 23 = .ok (.iconst 0, 1) := by decide +kernel
theorem dX8_cutByLengths_24 : decode cX8_cutByLengths 24 = .ok (.istore 8, 2) := by decide +kernel
theorem dX8_cutByLengths_26 : decode cX8_cutByLengths 26 = .ok (.iload 8, 2) := by decide +kernel
theorem dX8_cutByLengths_28 : decode cX8_cutByLengths 28 = .ok (.iload 4, 2) := by decide +kernel
theorem dX8_cutByLengths_30 : decode cX8_cutByLengths 30 = .ok (.if_icmp .ge 29, 3) := by decide +kernel
theorem dX8_cutByLengths_33 : decode cX8_cutByLengths 33 = .ok (.lload 6, 2) := by decide +kernel
theorem dX8_cutByLengths_35 : decode cX8_cutByLengths 35 = .ok (.bipush 8, 2) := by decide +kernel
theorem dX8_cutByLengths_37 : decode cX8_cutByLengths 37 = .ok (.lshl, 1) := by decide +kernel
theorem dX8_cutByLengths_38 : decode cX8_cutByLengths 38 = .ok (.aload_n 1, 1) := by decide +kernel
theorem dX8_cutByLengths_39 : decode cX8_cutByLengths 39 = .ok (.iload 5, 2) := by decide +kernel
theorem dX8_cutByLengths_41 : decode cX8_cutByLengths 41 = .ok (.iload 8, 2) := by decide +kernel
theorem dX8_cutByLengths_43 : decode cX8_cutByLengths 43 = .ok (.iadd, 1) := by decide +kernel
theorem dX8_cutByLengths_44 : decode cX8_cutByLengths 44 = .ok (.baload, 1) := by decide +kernel
theorem dX8_cutByLengths_45 : decode cX8_cutByLengths 45 = .ok (.sipush 255, 3) := by decide +kernel
theorem dX8_cutByLengths_48 : decode cX8_cutByLengths 48 = .ok (.iand, 1) := by decide +kernel
theorem dX8_cutByLengths_49 : decode cX8_cutByLengths 49 = .ok (.i2l, 1) := by decide +kernel
theorem dX8_cutByLengths_50 : decode cX8_cutByLengths 50 = .ok (.lor, 1) := by decide +kernel
theorem dX8_cutByLengths_51 : decode cX8_cutByLengths 51 = .ok (.lstore 6, 2) := by decide +kernel
theorem dX8_cutByLengths_53 : decode cX8_cutByLengths 53 = .ok (.iinc 8 1, 3) := by decide +kernel
theorem dX8_cutByLengths_56 : decode cX8_cutByLengths 56 = .ok (.goto (-30), 3) := by decide +kernel
theorem dX8_cutByLengths_59 : decode cX8_cutByLengths 59 = .ok (.iload 5, 2) := by decide +kernel
theorem dX8_cutByLengths_61 : decode cX8_cutByLengths 61 = .ok (.iload 4, 2) := by decide +kernel
theorem dX8_cutByLengths_63 : decode cX8_cutByLengths 63 = .ok (.iadd, 1) := by decide +kernel
theorem dX8_cutByLengths_64 : decode cX8_cutByLengths 64 = .ok (.istore 5, 2) := by decide +kernel
theorem dX8_cutByLengths_66 : decode cX8_cutByLengths 66 = .ok (.lload 6, 2) := by decide +kernel
theorem dX8_cutByLengths_68 : decode cX8_cutByLengths 68 = .ok (.iload_n 3, 1) := by decide +kernel
theorem dX8_cutByLengths_69 : decode cX8_cutByLengths 69 = .ok (.iload 5, 2) := by decide +kernel
theorem dX8_cutByLengths_71 : decode cX8_cutByLengths 71 = .ok (.isub, 1) := by decide +kernel
theorem dX8_cutByLengths_72 : decode cX8_cutByLengths 72 = .ok (.i2l, 1) := by decide +kernel
theorem dX8_cutByLengths_73 : decode cX8_cutByLengths 73 = .ok (.lcmp, 1) := by decide +kernel
theorem dX8_cutByLengths_74 : decode cX8_cutByLengths 74 = .ok (.ifCond .gt 22, 3) := by decide +kernel
theorem dX8_cutByLengths_77 : decode cX8_cutByLengths 77 = .ok (.lload 6, 2) := by decide +kernel
theorem dX8_cutByLengths_79 : decode cX8_cutByLengths 79 = .ok (.lconst 0, 1) := by decide +kernel
theorem dX8_cutByLengths_80 : decode cX8_cutByLengths 80 = .ok (.lcmp, 1) := by decide +kernel
theorem dX8_cutByLengths_81 : decode cX8_cutByLengths 81 = .ok (.ifCond .le 17, 3) := by decide +kernel
theorem dX8_cutByLengths_84 : decode cX8_cutByLengths 84 = .ok (.aload_n 0, 1) := by decide +kernel
theorem dX8_cutByLengths_85 : decode cX8_cutByLengths 85 = .ok (.iload 5, 2) := by decide +kernel
theorem dX8_cutByLengths_87 : decode cX8_cutByLengths 87 = .ok (.lload 6, 2) := by decide +kernel
theorem dX8_cutByLengths_89 : decode cX8_cutByLengths 89 = .ok (.l2i, 1) := by decide +kernel
theorem dX8_cutByLengths_90 : decode cX8_cutByLengths 90 = .ok (.invokevirtual 52, 3) := by decide +kernel
theorem dX8_cutByLengths_93 : decode cX8_cutByLengths 93 = .ok (.ifCond .ne 5, 3) := by decide +kernel
theorem dX8_cutByLengths_96 : decode cX8_cutByLengths 96 = .ok (.iconst 0, 1) := by decide +kernel
theorem dX8_cutByLengths_97 : decode cX8_cutByLengths 97 = .ok (.ireturn, 1) := by decide +kernel
theorem dX8_cutByLengths_98 : decode cX8_cutByLengths 98 = .ok (.iload 5, 2) := by decide +kernel
theorem dX8_cutByLengths_100 : decode cX8_cutByLengths 100 = .ok (.lload 6, 2) := by decide +kernel
theorem dX8_cutByLengths_102 : decode cX8_cutByLengths 102 = .ok (.l2i, 1) := by decide +kernel
theorem dX8_cutByLengths_103 : decode cX8_cutByLengths 103 = .ok (.iadd, 1) := by decide +kernel
theorem dX8_cutByLengths_104 : decode cX8_cutByLengths 104 = .ok (.istore 5, 2) := by decide +kernel
theorem dX8_cutByLengths_106 : decode cX8_cutByLengths 106 = .ok (.goto (-103), 3) := by decide +kernel
theorem dX8_cutByLengths_109 : decode cX8_cutByLengths 109 = .ok (.iconst 1, 1) := by decide +kernel
theorem dX8_cutByLengths_110 : decode cX8_cutByLengths 110 = .ok (.ireturn, 1) := by decide +kernel
def FX8_cutByLengths (G : GG) (M : DD) (a : Nat) (p0 : Option Nat) (p1 : Int32) (p2 : Int32) (p3 : Int32) : Option (DD × Int32) :=
  bnd (itr (fun (s2 : Int32 × DD) => ((if p2 ≤ s2.1 then (some (.inr (.inl (s2.1, s2.2)))) else
  (ltt ((p2 - s2.1)) fun x6 =>
  if p3 ≤ x6 then (bnd (itr (fun (s9 : Int64 × Int32) => ((if p3 ≤ s9.2 then (some (.inr (s9.1, s9.2))) else
  (ltt (s9.1 <<< (((8 : Int32)).toInt64 &&& 63)) fun x27 =>
  ltt ((s2.1 + s9.2)) fun x28 =>
  dr G 12 p0 fun b29 =>
  chk (¬ (x28 < 0 ∨ G.2.2 b29 ≤ x28.toNatClampNeg)) <|
  ltt (s2.2.1 b29 x28.toNatClampNeg) fun x30 =>
  ltt ((x30 &&& ((255 : Int32)))) fun x31 =>
  ltt (x31.toInt64) fun x32 =>
  ltt (x27 ||| x32) fun x33 =>
  ltt (s9.2 + (1 : Int32)) fun x34 =>
  some (.inl (x33, x34)))) : Option ((Int64 × Int32) ⊕ (Int64 × Int32)))) 1000000 ((0 : Int64), (0 : Int32))) fun (y8 : Int64 × Int32) =>
  ltt ((s2.1 + p3)) fun x11 =>
  ltt ((p2 - x11)) fun x12 =>
  ltt (x12.toInt64) fun x13 =>
  ltt (lg_cmp y8.1 x13) fun x14 =>
  if ((0 : Int32)) < x14 then (chk (((0 : Int32)) = 0 ∨ ((0 : Int32)) = 1) <|
  some (.inr (.inr (s2.2, (0 : Int32))))) else
  (ltt (lg_cmp y8.1 ((0 : Int64))) fun x16 =>
  if x16 ≤ ((0 : Int32)) then (ltt (y8.1.toInt32) fun x18 =>
  ltt ((x11 + x18)) fun x19 =>
  some (.inl (x19, s2.2))) else
  (ltt (y8.1.toInt32) fun x20 =>
  bnd (FX8_note G s2.2 a x11 x20) fun y21 =>
  if y21.2 = ((0 : Int32)) then (chk (((0 : Int32)) = 0 ∨ ((0 : Int32)) = 1) <|
  some (.inr (.inr (y21.1, (0 : Int32))))) else
  (ltt (y8.1.toInt32) fun x23 =>
  ltt ((x11 + x23)) fun x24 =>
  some (.inl (x24, y21.1)))))) else
  (chk (((0 : Int32)) = 0 ∨ ((0 : Int32)) = 1) <|
  some (.inr (.inr (s2.2, (0 : Int32))))))) : Option ((Int32 × DD) ⊕ ((Int32 × DD) ⊕ (DD × Int32))))) 1000000 (p1, M)) fun (y1 : (Int32 × DD) ⊕ (DD × Int32)) =>
  sel y1 (fun (z1k : Int32 × DD) =>
  chk (((1 : Int32)) = 0 ∨ ((1 : Int32)) = 1) <|
  some (z1k.2, (1 : Int32))) fun r9 => some r9
set_option maxHeartbeats 4000000 in
set_option maxRecDepth 100000 in
theorem kX8_cutByLengths (l : Launch) (D : va_G) (ct : CT) (ad : Nat → Nat) (Z : Nat → Nat) (G : GG) (M : DD) (sz : Nat) (a : Nat) (p0 : Option Nat) (p1 : Int32) (p2 : Int32) (p3 : Int32) (y : DD × Int32) (hc : a < G.1) (hk : G.2.1 a = 8) (hF : FX8_cutByLengths G M a p0 p1 p2 p3 = some y) : Met l yX8_cutByLengths wuX8_cutByLengths ({ frames := 1, cells := 0, slots := 0, locals := 22 }) (va_Pc [.ref (ad a), va_re ad p0, .int p1, .int p2, .int p3] (kB D ct ad Z G M sz)) (va_Qi (fun (q : Int32) (_ : Unit) => q = y.2) (fun _ t => kE D ct ad G (wA ad G sz) y.1 t) (wA ad G sz)) 0 0 (wA ad G sz) := by
  refine Met.ofW (cc := cX8_cutByLengths) (maxL := 9) (ret := (some .boolean)) (by decide) rfl ?_
  intro p e s m args below meth c s₁ B hml hv
  obtain ⟨rfl, hsz, hP, hK, hD0, hZ, hN⟩ := hv
  have hx := B.exec
  have hb := B.bytes
  have hr := B.returns
  have hts := atoms_spec (ws := wuX8_cutByLengths) B.pre
  have hown : s.vm.findClass RX8 = some m.cls := findClass_of_methodNamed B.named
  have hlocks := B.notSynchronized
  subst hsz
  have hD := wD_self (sz := s.heap.size) hD0
  have hA9 : ∀ q, s.heap.size ≤ q → wA ad G s.heap.size q := fun q h => Or.inr h
  generalize hAe : wA ad G s.heap.size = A at hD hA9 hZ ⊢
  have hS : va_S A s.heap s.heap [] := va_S.rf
  have hl := lv_entry ([.ref (ad a), va_re ad p0, .int p1, .int p2, .int p3]) (n := 9) (by cases p0 <;> exact Nat.le_of_ble_eq_true rfl)
  rw [lg_entry_eq]
  generalize (lg_sl ([.ref (ad a), va_re ad p0, .int p1, .int p2, .int p3]) ++ List.replicate (9 - (lg_sl ([.ref (ad a), va_re ad p0, .int p1, .int p2, .int p3])).length) Slot.unset).toArray = ls at hl ⊢
  have hl : lv_has ls 9 [(0, .ref (ad a)), (1, va_re ad p0), (2, .int p1), (3, .int p2), (4, .int p3)] := by have e9 : lv_args 0 [.ref (ad a), va_re ad p0, .int p1, .int p2, .int p3] = [(0, .ref (ad a)), (1, va_re ad p0), (2, .int p1), (3, .int p2), (4, .int p3)] := (by cases p0 <;> rfl); rw [e9] at hl; exact hl
  unfold FX8_cutByLengths at hF
  refine lv_iload_n hx hb dX8_cutByLengths_0 rfl (lv_at hl 2 rfl) ?_
  refine lv_istore (lv' := [(5, .int p1), (0, .ref (ad a)), (1, va_re ad p0), (2, .int p1), (3, .int p2), (4, .int p3)]) hx hb dX8_cutByLengths_1 hl (by decide) rfl (fun ls hl => ?_)
  obtain ⟨y1, hy1, hF⟩ := bnd_some hF
  have K1 : ∀ z1k : Int32 × DD, y1 = .inl z1k → ∀ (H : Heap) (locs : List Loc) (ls : Array Slot), va_P D classes (wld ct ad G z1k.2) H → va_D A (wld ct ad G z1k.2) → va_S A s.heap H locs → lv_has ls 9 [(5, .int z1k.1), (0, .ref (ad a)), (1, va_re ad p0), (2, .int p1), (3, .int p2), (4, .int p3)] → W p l e (headSpec wuX8_cutByLengths ({ frames := 1, cells := 0, slots := 0, locals := 22 })).room s m ([.ref (ad a), va_re ad p0, .int p1, .int p2, .int p3] : List Value).toArray below meth c H locs 0 0 (MQ below (va_Qi (fun (q : Int32) (_ : Unit) => q = y.2) (fun _ t => kE D ct ad G A y.1 t) A) ([.ref (ad a), va_re ad p0, .int p1, .int p2, .int p3] : List Value).toArray s 0 0 A) (F0 m 109 ls []) := by
    intro z1k hz1 H locs ls hP hD hS hl
    have hF := sel_inl (hz1 ▸ hF)
    refine lv_iconst (v := (1 : Int32)) hx hb dX8_cutByLengths_109 (by decide) ?_
    obtain ⟨hz9, hF⟩ := chk_some hF
    obtain rfl := Option.some.inj hF
    exact W.zret (v := (1 : Int32)) (ty := .boolean) hx hb hr (nar_z hz9).1 (fun t ht hW => ⟨⟨_, (), rfl, rfl, ⟨by rw [ht]; exact hP, va_K.moved hW.alike hK, hD⟩⟩, hS.F ht⟩) hS.2.2 dX8_cutByLengths_110
  have hR1 := hF
  clear hF
  refine itr_rule (fun (s2 : Int32 × DD) => ∀ (H : Heap) (locs : List Loc) (ls : Array Slot), va_P D classes (wld ct ad G s2.2) H → va_D A (wld ct ad G s2.2) → va_S A s.heap H locs → lv_has ls 9 [(5, .int s2.1), (0, .ref (ad a)), (1, va_re ad p0), (2, .int p1), (3, .int p2), (4, .int p3)] → W p l e (headSpec wuX8_cutByLengths ({ frames := 1, cells := 0, slots := 0, locals := 22 })).room s m ([.ref (ad a), va_re ad p0, .int p1, .int p2, .int p3] : List Value).toArray below meth c H locs 0 0 (MQ below (va_Qi (fun (q : Int32) (_ : Unit) => q = y.2) (fun _ t => kE D ct ad G A y.1 t) A) ([.ref (ad a), va_re ad p0, .int p1, .int p2, .int p3] : List Value).toArray s 0 0 A) (F0 m 3 ls [])) ?_ _ _ hy1 _ _ _ hP hD hS (lv_sub hl [0, 1, 2, 3, 4, 5] rfl)
  rintro s2 ⟨z4, hF, hwz4⟩ H locs ls hP hD hS hl
  try dsimp only at hF
  refine lv_iload hx hb dX8_cutByLengths_3 (lv_at hl 0 rfl) ?_
  refine lv_iload_n hx hb dX8_cutByLengths_5 rfl (lv_at hl 4 rfl) ?_
  refine lv_icmp_ge (tgt := 109) hx hb dX8_cutByLengths_6 (by decide) (fun c5 => ?_) (fun c5 => ?_)
  · rw [if_pos c5] at hF
    obtain rfl := Option.some.inj hF
    exact K1 _ hwz4.symm _ _ _ hP hD hS (lv_sub hl [0, 1, 2, 3, 4, 5] rfl)
  · rw [if_neg c5] at hF
    refine lv_iload_n hx hb dX8_cutByLengths_9 rfl (lv_at hl 4 rfl) ?_
    refine lv_iload hx hb dX8_cutByLengths_10 (lv_at hl 0 rfl) ?_
    refine lv_isub hx hb dX8_cutByLengths_12 ?_
    obtain ⟨x6, ex6, hF⟩ := ltt_some hF
    refine lv_topi (fun zx6 ezx6 => ?_)
    obtain rfl : x6 = zx6 := ex6.trans ezx6.symm
    refine lv_iload hx hb dX8_cutByLengths_13 (lv_at hl 5 rfl) ?_
    refine lv_icmp_ge (tgt := 20) hx hb dX8_cutByLengths_15 (by decide) (fun c7 => ?_) (fun c7 => ?_)
    · rw [if_pos c7] at hF
      refine lv_lconst (v := (0 : Int64)) hx hb dX8_cutByLengths_20 rfl ?_
      refine lv_lstore (lv' := [(6, .long (0 : Int64)), (5, .int s2.1), (0, .ref (ad a)), (1, va_re ad p0), (2, .int p1), (3, .int p2), (4, .int p3)]) hx hb dX8_cutByLengths_21 hl (by decide) rfl (fun ls hl => ?_)
      refine lv_iconst (v := (0 : Int32)) hx hb dX8_cutByLengths_23 (by decide) ?_
      refine lv_istore (lv' := [(8, .int (0 : Int32)), (6, .long (0 : Int64)), (5, .int s2.1), (0, .ref (ad a)), (1, va_re ad p0), (2, .int p1), (3, .int p2), (4, .int p3)]) hx hb dX8_cutByLengths_24 hl (by decide) rfl (fun ls hl => ?_)
      obtain ⟨y8, hy8, hF⟩ := bnd_some hF
      have K8 : ∀ (H : Heap) (locs : List Loc) (ls : Array Slot), va_P D classes (wld ct ad G s2.2) H → va_D A (wld ct ad G s2.2) → va_S A s.heap H locs → lv_has ls 9 [(8, .int y8.2), (6, .long y8.1), (5, .int s2.1), (0, .ref (ad a)), (1, va_re ad p0), (2, .int p1), (3, .int p2), (4, .int p3)] → W p l e (headSpec wuX8_cutByLengths ({ frames := 1, cells := 0, slots := 0, locals := 22 })).room s m ([.ref (ad a), va_re ad p0, .int p1, .int p2, .int p3] : List Value).toArray below meth c H locs 0 0 (MQ below (va_Qi (fun (q : Int32) (_ : Unit) => q = y.2) (fun _ t => kE D ct ad G A y.1 t) A) ([.ref (ad a), va_re ad p0, .int p1, .int p2, .int p3] : List Value).toArray s 0 0 A) (F0 m 59 ls []) := by
        intro H locs ls hP hD hS hl
        refine lv_iload hx hb dX8_cutByLengths_59 (lv_at hl 2 rfl) ?_
        refine lv_iload hx hb dX8_cutByLengths_61 (lv_at hl 7 rfl) ?_
        refine lv_iadd hx hb dX8_cutByLengths_63 ?_
        obtain ⟨x11, ex11, hF⟩ := ltt_some hF
        refine lv_topi (fun zx11 ezx11 => ?_)
        obtain rfl : x11 = zx11 := ex11.trans ezx11.symm
        refine lv_istore (lv' := [(5, .int x11), (8, .int y8.2), (6, .long y8.1), (0, .ref (ad a)), (1, va_re ad p0), (2, .int p1), (3, .int p2), (4, .int p3)]) hx hb dX8_cutByLengths_64 hl (by decide) rfl (fun ls hl => ?_)
        refine lv_lload hx hb dX8_cutByLengths_66 (lv_at hl 2 rfl) ?_
        refine lv_iload_n hx hb dX8_cutByLengths_68 rfl (lv_at hl 6 rfl) ?_
        refine lv_iload hx hb dX8_cutByLengths_69 (lv_at hl 0 rfl) ?_
        refine lv_isub hx hb dX8_cutByLengths_71 ?_
        obtain ⟨x12, ex12, hF⟩ := ltt_some hF
        refine lv_topi (fun zx12 ezx12 => ?_)
        obtain rfl : x12 = zx12 := ex12.trans ezx12.symm
        refine lv_i2l (v := x12.toInt64) hx hb dX8_cutByLengths_72 rfl ?_
        obtain ⟨x13, ex13, hF⟩ := ltt_some hF
        refine lv_topl (fun zx13 ezx13 => ?_)
        obtain rfl : x13 = zx13 := ex13.trans ezx13.symm
        refine W.lcmp hx hb dX8_cutByLengths_73 ?_
        obtain ⟨x14, ex14, hF⟩ := ltt_some hF
        refine lv_topi (fun zx14 ezx14 => ?_)
        obtain rfl : x14 = zx14 := ex14.trans ezx14.symm
        refine lv_if_gt (tgt := 96) hx hb dX8_cutByLengths_74 (by decide) (fun c15 => ?_) (fun c15 => ?_)
        · rw [if_pos c15] at hF
          refine lv_iconst (v := (0 : Int32)) hx hb dX8_cutByLengths_96 (by decide) ?_
          obtain ⟨hz9, hF⟩ := chk_some hF
          obtain rfl := Option.some.inj hF
          have hF := sel_inr (hwz4 ▸ hR1)
          obtain rfl := Option.some.inj hF
          exact W.zret (v := (0 : Int32)) (ty := .boolean) hx hb hr (nar_z hz9).1 (fun t ht hW => ⟨⟨_, (), rfl, rfl, ⟨by rw [ht]; exact hP, va_K.moved hW.alike hK, hD⟩⟩, hS.F ht⟩) hS.2.2 dX8_cutByLengths_97
        · rw [if_neg c15] at hF
          refine lv_lload hx hb dX8_cutByLengths_77 (lv_at hl 2 rfl) ?_
          refine lv_lconst (v := (0 : Int64)) hx hb dX8_cutByLengths_79 rfl ?_
          refine W.lcmp hx hb dX8_cutByLengths_80 ?_
          obtain ⟨x16, ex16, hF⟩ := ltt_some hF
          refine lv_topi (fun zx16 ezx16 => ?_)
          obtain rfl : x16 = zx16 := ex16.trans ezx16.symm
          refine lv_if_le (tgt := 98) hx hb dX8_cutByLengths_81 (by decide) (fun c17 => ?_) (fun c17 => ?_)
          · rw [if_pos c17] at hF
            refine lv_iload hx hb dX8_cutByLengths_98 (lv_at hl 0 rfl) ?_
            refine lv_lload hx hb dX8_cutByLengths_100 (lv_at hl 2 rfl) ?_
            refine lv_l2i (v := y8.1.toInt32) hx hb dX8_cutByLengths_102 rfl ?_
            obtain ⟨x18, ex18, hF⟩ := ltt_some hF
            refine lv_topi (fun zx18 ezx18 => ?_)
            obtain rfl : x18 = zx18 := ex18.trans ezx18.symm
            refine lv_iadd hx hb dX8_cutByLengths_103 ?_
            obtain ⟨x19, ex19, hF⟩ := ltt_some hF
            refine lv_topi (fun zx19 ezx19 => ?_)
            obtain rfl : x19 = zx19 := ex19.trans ezx19.symm
            refine lv_istore (lv' := [(5, .int x19), (8, .int y8.2), (6, .long y8.1), (0, .ref (ad a)), (1, va_re ad p0), (2, .int p1), (3, .int p2), (4, .int p3)]) hx hb dX8_cutByLengths_104 hl (by decide) rfl (fun ls hl => ?_)
            refine lv_goto (tgt := 3) hx hb dX8_cutByLengths_106 (by decide) ?_
            obtain rfl := Option.some.inj hF
            exact hwz4 _ _ _ hP hD hS (lv_sub hl [0, 3, 4, 5, 6, 7] rfl)
          · rw [if_neg c17] at hF
            refine lv_aload_n hx hb dX8_cutByLengths_84 rfl (lv_at hl 3 rfl) ?_
            refine lv_iload hx hb dX8_cutByLengths_85 (lv_at hl 0 rfl) ?_
            refine lv_lload hx hb dX8_cutByLengths_87 (lv_at hl 2 rfl) ?_
            refine lv_l2i (v := y8.1.toInt32) hx hb dX8_cutByLengths_89 rfl ?_
            obtain ⟨x20, ex20, hF⟩ := ltt_some hF
            refine lv_topi (fun zx20 ezx20 => ?_)
            obtain rfl : x20 = zx20 := ex20.trans ezx20.symm
            obtain ⟨y21, hy21, hF⟩ := bnd_some hF
            have hf9 := wA_in hD hA9 hS
            refine va_calli (va_runV (As := [.int x11, .int x20]) (rest := []) ⟨hx, hb, hml, hown, hts⟩ (kX8_note l D ct ad Z G s2.2 H.size a x11 x20 y21 hc hk hy21) (cwV 2 hts gX8_cutByLengths_X8_note rfl rfl rfl (by decide +kernel) ⟨Nat.le_of_ble_eq_true rfl, Nat.le_of_ble_eq_true rfl⟩) ⟨fun a U g mk q => by obtain ⟨q0, q1, qP, qK, qD, qZ, qN⟩ := q; exact ⟨q0, q1, qP, va_K.moved (u := U) (U := U.calling g mk a) (Vm.Alike.refl U.vm) qK, qD, sF.moved (u := U) (U := U.calling g mk a) (Vm.Alike.refl U.vm) qZ, nF.same rfl qN⟩, va_recv hK hP (ci := 8) (q0 := a) rfl (wld_o ct ad G s2.2 hc hk (by decide)), fun U hU hW => ⟨rfl, by rw [hU], by rw [hU]; exact hP, va_K.moved hW.alike hK, hD.weaken (fun _ _ _ _ => trivial), by rw [hU]; exact ((hZ.kept hS.2.1).narrow hf9).moved hW.alike, hN.warm hW⟩⟩ rfl rfl hl.1 rfl (lv_room (Nat.le_of_ble_eq_true rfl)) dX8_cutByLengths_90 ⟨(Nat.zero_le _), (Nat.zero_le _)⟩) hS (fun q _ h => hf9 q h) hf9 (fun r u t H locs ht hvm hw hB hz1 hk1 hS => ?_)
            obtain ⟨hP, hK9, hD9⟩ := hB
            rw [ht] at hP
            try dsimp only at hw
            subst hw
            have hD := hD9.weaken (fun _ q _ h => hf9 q.1 h)
            refine lv_if_ne (tgt := 98) hx hb dX8_cutByLengths_93 (by decide) (fun c22 => ?_) (fun c22 => ?_)
            · rw [if_neg c22] at hF
              refine lv_iload hx hb dX8_cutByLengths_98 (lv_at hl 0 rfl) ?_
              refine lv_lload hx hb dX8_cutByLengths_100 (lv_at hl 2 rfl) ?_
              refine lv_l2i (v := y8.1.toInt32) hx hb dX8_cutByLengths_102 rfl ?_
              obtain ⟨x23, ex23, hF⟩ := ltt_some hF
              refine lv_topi (fun zx23 ezx23 => ?_)
              obtain rfl : x23 = zx23 := ex23.trans ezx23.symm
              refine lv_iadd hx hb dX8_cutByLengths_103 ?_
              obtain ⟨x24, ex24, hF⟩ := ltt_some hF
              refine lv_topi (fun zx24 ezx24 => ?_)
              obtain rfl : x24 = zx24 := ex24.trans ezx24.symm
              refine lv_istore (lv' := [(5, .int x24), (8, .int y8.2), (6, .long y8.1), (0, .ref (ad a)), (1, va_re ad p0), (2, .int p1), (3, .int p2), (4, .int p3)]) hx hb dX8_cutByLengths_104 hl (by decide) rfl (fun ls hl => ?_)
              refine lv_goto (tgt := 3) hx hb dX8_cutByLengths_106 (by decide) ?_
              obtain rfl := Option.some.inj hF
              exact hwz4 _ _ _ hP hD hS (lv_sub hl [0, 3, 4, 5, 6, 7] rfl)
            · rw [if_pos c22] at hF
              refine lv_iconst (v := (0 : Int32)) hx hb dX8_cutByLengths_96 (by decide) ?_
              obtain ⟨hz9, hF⟩ := chk_some hF
              obtain rfl := Option.some.inj hF
              have hF := sel_inr (hwz4 ▸ hR1)
              obtain rfl := Option.some.inj hF
              exact W.zret (v := (0 : Int32)) (ty := .boolean) hx hb hr (nar_z hz9).1 (fun t ht hW => ⟨⟨_, (), rfl, rfl, ⟨by rw [ht]; exact hP, va_K.moved hW.alike hK, hD⟩⟩, hS.F ht⟩) hS.2.2 dX8_cutByLengths_97
      clear hF
      refine itr_rule (fun (s9 : Int64 × Int32) => ∀ (H : Heap) (locs : List Loc) (ls : Array Slot), va_P D classes (wld ct ad G s2.2) H → va_D A (wld ct ad G s2.2) → va_S A s.heap H locs → lv_has ls 9 [(8, .int s9.2), (6, .long s9.1), (5, .int s2.1), (0, .ref (ad a)), (1, va_re ad p0), (2, .int p1), (3, .int p2), (4, .int p3)] → W p l e (headSpec wuX8_cutByLengths ({ frames := 1, cells := 0, slots := 0, locals := 22 })).room s m ([.ref (ad a), va_re ad p0, .int p1, .int p2, .int p3] : List Value).toArray below meth c H locs 0 0 (MQ below (va_Qi (fun (q : Int32) (_ : Unit) => q = y.2) (fun _ t => kE D ct ad G A y.1 t) A) ([.ref (ad a), va_re ad p0, .int p1, .int p2, .int p3] : List Value).toArray s 0 0 A) (F0 m 26 ls [])) ?_ _ _ hy8 _ _ _ hP hD hS (lv_sub hl [0, 1, 2, 3, 4, 5, 6, 7] rfl)
      rintro s9 ⟨z25, hF, hwz25⟩ H locs ls hP hD hS hl
      try dsimp only at hF
      refine lv_iload hx hb dX8_cutByLengths_26 (lv_at hl 0 rfl) ?_
      refine lv_iload hx hb dX8_cutByLengths_28 (lv_at hl 7 rfl) ?_
      refine lv_icmp_ge (tgt := 59) hx hb dX8_cutByLengths_30 (by decide) (fun c26 => ?_) (fun c26 => ?_)
      · rw [if_pos c26] at hF
        obtain rfl := Option.some.inj hF
        subst hwz25
        exact K8 _ _ _ hP hD hS (lv_sub hl [0, 1, 2, 3, 4, 5, 6, 7] rfl)
      · rw [if_neg c26] at hF
        refine lv_lload hx hb dX8_cutByLengths_33 (lv_at hl 1 rfl) ?_
        refine lv_bipush (v := (8 : Int32)) hx hb dX8_cutByLengths_35 (by decide) ?_
        refine lv_lshl (v := s9.1 <<< (((8 : Int32)).toInt64 &&& 63)) hx hb dX8_cutByLengths_37 rfl ?_
        obtain ⟨x27, ex27, hF⟩ := ltt_some hF
        refine lv_topl (fun zx27 ezx27 => ?_)
        obtain rfl : x27 = zx27 := ex27.trans ezx27.symm
        refine lv_aloadq_n hx hb dX8_cutByLengths_38 rfl (lv_at hl 4 rfl) ?_
        refine lv_iload hx hb dX8_cutByLengths_39 (lv_at hl 2 rfl) ?_
        refine lv_iload hx hb dX8_cutByLengths_41 (lv_at hl 0 rfl) ?_
        refine lv_iadd hx hb dX8_cutByLengths_43 ?_
        obtain ⟨x28, ex28, hF⟩ := ltt_some hF
        refine lv_topi (fun zx28 ezx28 => ?_)
        obtain rfl : x28 = zx28 := ex28.trans ezx28.symm
        obtain ⟨b29, ho29, hc29, hk29, hF⟩ := dr_some hF
        refine W_st (st' := [.int x28, .ref (ad b29), .long x27]) (by rw [va_some ho29]) ?_
        obtain ⟨hvc, hF⟩ := chk_some hF
        refine va_bald hx hb hK hP b29 0 (wld_b ct ad G s2.2 hc29 hk29) rfl hvc dX8_cutByLengths_44 ?_
        obtain ⟨x30, ex30, hF⟩ := ltt_some hF
        refine lv_topi (fun zx30 ezx30 => ?_)
        obtain rfl : x30 = zx30 := ex30.trans ezx30.symm
        refine lv_sipush (v := (255 : Int32)) hx hb dX8_cutByLengths_45 (by decide) ?_
        refine lv_iand hx hb dX8_cutByLengths_48 ?_
        obtain ⟨x31, ex31, hF⟩ := ltt_some hF
        refine lv_topi (fun zx31 ezx31 => ?_)
        obtain rfl : x31 = zx31 := ex31.trans ezx31.symm
        refine lv_i2l (v := x31.toInt64) hx hb dX8_cutByLengths_49 rfl ?_
        obtain ⟨x32, ex32, hF⟩ := ltt_some hF
        refine lv_topl (fun zx32 ezx32 => ?_)
        obtain rfl : x32 = zx32 := ex32.trans ezx32.symm
        refine lv_lor hx hb dX8_cutByLengths_50 ?_
        obtain ⟨x33, ex33, hF⟩ := ltt_some hF
        refine lv_topl (fun zx33 ezx33 => ?_)
        obtain rfl : x33 = zx33 := ex33.trans ezx33.symm
        refine lv_lstore (lv' := [(6, .long x33), (8, .int s9.2), (5, .int s2.1), (0, .ref (ad a)), (1, va_re ad p0), (2, .int p1), (3, .int p2), (4, .int p3)]) hx hb dX8_cutByLengths_51 hl (by decide) rfl (fun ls hl => ?_)
        obtain ⟨x34, ex34, hF⟩ := ltt_some hF
        refine lv_iinc (v := x34) (lv' := [(8, .int x34), (6, .long x33), (5, .int s2.1), (0, .ref (ad a)), (1, va_re ad p0), (2, .int p1), (3, .int p2), (4, .int p3)]) hx hb dX8_cutByLengths_53 hl (k := 1) rfl (by rw [ex34]; rfl) (by decide) rfl (fun ls hl => ?_)
        refine lv_goto (tgt := 26) hx hb dX8_cutByLengths_56 (by decide) ?_
        obtain rfl := Option.some.inj hF
        exact hwz25 _ _ _ hP hD hS (lv_sub hl [0, 1, 2, 3, 4, 5, 6, 7] rfl)
    · rw [if_neg c7] at hF
      refine lv_iconst (v := (0 : Int32)) hx hb dX8_cutByLengths_18 (by decide) ?_
      obtain ⟨hz9, hF⟩ := chk_some hF
      obtain rfl := Option.some.inj hF
      have hF := sel_inr (hwz4 ▸ hR1)
      obtain rfl := Option.some.inj hF
      exact W.zret (v := (0 : Int32)) (ty := .boolean) hx hb hr (nar_z hz9).1 (fun t ht hW => ⟨⟨_, (), rfl, rfl, ⟨by rw [ht]; exact hP, va_K.moved hW.alike hK, hD⟩⟩, hS.F ht⟩) hS.2.2 dX8_cutByLengths_19
set_option maxRecDepth 20000 in
theorem gX8_cutByMarks_X8_note : GoodIn wuX8_cutByMarks (wsV RX8 52 RX8 yX8_note wuX8_note) := gu_V mw_2748 mw_2750 mw_158 mw_167 mw_2751
set_option maxRecDepth 20000 in
theorem gX8_cutByMarks_X8_endsUnit : GoodIn wuX8_cutByMarks (va_wsS RX8 48 yX8_endsUnit wuX8_endsUnit) := gu_S mw_2745 mw_2746 mw_167 mw_2747
set_option maxRecDepth 20000 in
theorem dX8_cutByMarks_0 : decode cX8_cutByMarks 0 = .ok (.iconst 0, 1) := by decide +kernel
theorem dX8_cutByMarks_1 : decode cX8_cutByMarks 1 = .ok (.istore_n 3, 1) := by decide +kernel
theorem dX8_cutByMarks_2 : decode cX8_cutByMarks 2 = .ok (.iload_n 3, 1) := by decide +kernel
theorem dX8_cutByMarks_3 : decode cX8_cutByMarks 3 = .ok (.iconst 2, 1) := by decide +kernel
theorem dX8_cutByMarks_4 : decode cX8_cutByMarks 4 = .ok (.iadd, 1) := by decide +kernel
theorem dX8_cutByMarks_5 : decode cX8_cutByMarks 5 = .ok (.iload_n 2, 1) := by decide +kernel
theorem dX8_cutByMarks_6 : decode cX8_cutByMarks 6 = .ok (.if_icmp .ge 84, 3) := by decide +kernel
theorem dX8_cutByMarks_9 : decode cX8_cutByMarks 9 = .ok (.aload_n 1, 1) := by decide +kernel
theorem dX8_cutByMarks_10 : decode cX8_cutByMarks 10 = .ok (.iload_n 3, 1) := by decide +kernel
theorem dX8_cutByMarks_11 : decode cX8_cutByMarks 11 = .ok (.baload, 1) := by decide +kernel
theorem dX8_cutByMarks_12 : decode cX8_cutByMarks 12 = .ok (.ifCond .ne 20, 3) := by decide +kernel
theorem dX8_cutByMarks_15 : decode cX8_cutByMarks 15 = .ok (.aload_n 1, 1) := by decide +kernel
theorem dX8_cutByMarks_16 : decode cX8_cutByMarks 16 = .ok (.iload_n 3, 1) := by decide +kernel
theorem dX8_cutByMarks_17 : decode cX8_cutByMarks 17 = .ok (.iconst 1, 1) := by decide +kernel
theorem dX8_cutByMarks_18 : decode cX8_cutByMarks 18 = .ok (.iadd, 1) := by decide +kernel
theorem dX8_cutByMarks_19 : decode cX8_cutByMarks 19 = .ok (.baload, 1) := by decide +kernel
theorem dX8_cutByMarks_20 : decode cX8_cutByMarks 20 = .ok (.ifCond .ne 12, 3) := by decide +kernel
theorem dX8_cutByMarks_23 : decode cX8_cutByMarks 23 = .ok (.aload_n 1, 1) := by decide +kernel
theorem dX8_cutByMarks_24 : decode cX8_cutByMarks 24 = .ok (.iload_n 3, 1) := by decide +kernel
theorem dX8_cutByMarks_25 : decode cX8_cutByMarks 25 = .ok (.iconst 2, 1) := by decide +kernel
theorem dX8_cutByMarks_26 : decode cX8_cutByMarks 26 = .ok (.iadd, 1) := by decide +kernel
theorem dX8_cutByMarks_27 : decode cX8_cutByMarks 27 = .ok (.baload, 1) := by decide +kernel
theorem dX8_cutByMarks_28 : decode cX8_cutByMarks 28 = .ok (.iconst 1, 1) := by decide +kernel
theorem dX8_cutByMarks_29 : decode cX8_cutByMarks 29 = .ok (.if_icmp .eq 9, 3) := by decide +kernel
theorem dX8_cutByMarks_32 : decode cX8_cutByMarks 32 = .ok (.iinc 3 1, 3) := by decide +kernel
theorem dX8_cutByMarks_35 : decode cX8_cutByMarks 35 = .ok (.goto (-33), 3) := by decide +kernel
theorem dX8_cutByMarks_38 : decode cX8_cutByMarks 38 = .ok (.iload_n 3, 1) := by decide +kernel
theorem dX8_cutByMarks_39 : decode cX8_cutByMarks 39 = .ok (.iconst 3, 1) := by decide +kernel
theorem dX8_cutByMarks_40 : decode cX8_cutByMarks 40 = .ok (.iadd, 1) := by decide +kernel
theorem dX8_cutByMarks_41 : decode cX8_cutByMarks 41 = .ok (.istore 4, 2) := by decide +kernel
theorem dX8_cutByMarks_43 : decode cX8_cutByMarks 43 = .ok (.iload 4, 2) := by decide +kernel
theorem dX8_cutByMarks_45 : decode cX8_cutByMarks 45 = .ok (.istore_n 3, 1) := by decide +kernel
theorem dX8_cutByMarks_46 : decode cX8_cutByMarks 46 = .ok (.iload_n 3, 1) := by decide +kernel
theorem dX8_cutByMarks_47 : decode cX8_cutByMarks 47 = .ok (.iload_n 2, 1) := by decide +kernel
theorem dX8_cutByMarks_48 : decode cX8_cutByMarks 48 = .ok (.if_icmp .ge 18, 3) := by decide +kernel
theorem dX8_cutByMarks_51 : decode cX8_cutByMarks 51 = .ok (.aload_n 1, 1) := by decide +kernel
theorem dX8_cutByMarks_52 : decode cX8_cutByMarks 52 = .ok (.iload_n 3, 1) := by decide +kernel
theorem dX8_cutByMarks_53 : decode cX8_cutByMarks 53 = .ok (.iload_n 2, 1) := by decide +kernel
theorem dX8_cutByMarks_54 : decode cX8_cutByMarks 54 = .ok (.invokestatic 48, 3) := by decide +kernel
theorem dX8_cutByMarks_57 : decode cX8_cutByMarks 57 = .ok (.ifCond .ne 9, 3) := by decide +kernel
theorem dX8_cutByMarks_60 : decode cX8_cutByMarks 60 = .ok (.iinc 3 1, 3) := by decide +kernel
theorem dX8_cutByMarks_63 : decode cX8_cutByMarks 63 = .ok (.goto (-17), 3) := by decide +kernel
theorem dX8_cutByMarks_66 : decode cX8_cutByMarks 66 = .ok (.iload_n 3, 1) := by decide +kernel
theorem dX8_cutByMarks_67 : decode cX8_cutByMarks 67 = .ok (.iload 4, 2) := by decide +kernel
theorem dX8_cutByMarks_69 : decode cX8_cutByMarks 69 = .ok (.if_icmp .le 18, 3) := by decide +kernel
theorem dX8_cutByMarks_72 : decode cX8_cutByMarks 72 = .ok (.aload_n 0, 1) := by decide +kernel
theorem dX8_cutByMarks_73 : decode cX8_cutByMarks 73 = .ok (.iload 4, 2) := by decide +kernel
theorem dX8_cutByMarks_75 : decode cX8_cutByMarks 75 = .ok (.iload_n 3, 1) := by decide +kernel
theorem dX8_cutByMarks_76 : decode cX8_cutByMarks 76 = .ok (.iload 4, 2) := by decide +kernel
theorem dX8_cutByMarks_78 : decode cX8_cutByMarks 78 = .ok (.isub, 1) := by decide +kernel
theorem dX8_cutByMarks_79 : decode cX8_cutByMarks 79 = .ok (.invokevirtual 52, 3) := by decide +kernel
theorem dX8_cutByMarks_82 : decode cX8_cutByMarks 82 = .ok (.ifCond .ne 5, 3) := by decide +kernel
theorem dX8_cutByMarks_85 : decode cX8_cutByMarks 85 = .ok (.iconst 0, 1) := by decide +kernel
theorem dX8_cutByMarks_86 : decode cX8_cutByMarks 86 = .ok (.ireturn, 1) := by decide +kernel
theorem dX8_cutByMarks_87 : decode cX8_cutByMarks 87 = .ok (.goto (-85), 3) := by decide +kernel
theorem dX8_cutByMarks_90 : decode cX8_cutByMarks 90 = .ok (.iconst 1, 1) := by decide +kernel
theorem dX8_cutByMarks_91 : decode cX8_cutByMarks 91 = .ok (.ireturn, 1) := by decide +kernel
def FX8_cutByMarks (G : GG) (M : DD) (a : Nat) (p0 : Option Nat) (p1 : Int32) : Option (DD × Int32) :=
  bnd (itr (fun (s2 : Int32 × DD) => ((ltt ((s2.1 + ((2 : Int32)))) fun x5 =>
  if p1 ≤ x5 then (some (.inr (.inl (s2.1, s2.2)))) else
  (dr G 12 p0 fun b7 =>
  chk (¬ (s2.1 < 0 ∨ G.2.2 b7 ≤ s2.1.toNatClampNeg)) <|
  ltt (s2.2.1 b7 s2.1.toNatClampNeg) fun x8 =>
  if x8 = ((0 : Int32)) then (ltt ((s2.1 + ((1 : Int32)))) fun x11 =>
  chk (¬ (x11 < 0 ∨ G.2.2 b7 ≤ x11.toNatClampNeg)) <|
  ltt (s2.2.1 b7 x11.toNatClampNeg) fun x12 =>
  if x12 = ((0 : Int32)) then (ltt ((s2.1 + ((2 : Int32)))) fun x15 =>
  chk (¬ (x15 < 0 ∨ G.2.2 b7 ≤ x15.toNatClampNeg)) <|
  ltt (s2.2.1 b7 x15.toNatClampNeg) fun x16 =>
  if x16 = ((1 : Int32)) then (ltt ((s2.1 + ((3 : Int32)))) fun x18 =>
  bnd (itr (fun (s20 : Int32 × DD) => ((if p1 ≤ s20.1 then (some (.inr (s20.1, s20.2))) else
  (bnd (FX8_endsUnit G s20.2 p0 s20.1 p1) fun y28 =>
  if y28.2 = ((0 : Int32)) then (ltt (s20.1 + (1 : Int32)) fun x30 =>
  some (.inl (x30, y28.1))) else
  (some (.inr (s20.1, y28.1))))) : Option ((Int32 × DD) ⊕ (Int32 × DD)))) 1000000 (x18, s2.2)) fun (y19 : Int32 × DD) =>
  if y19.1 ≤ x18 then (some (.inl (y19.1, y19.2))) else
  (ltt ((y19.1 - x18)) fun x23 =>
  bnd (FX8_note G y19.2 a x18 x23) fun y24 =>
  if y24.2 = ((0 : Int32)) then (chk (((0 : Int32)) = 0 ∨ ((0 : Int32)) = 1) <|
  some (.inr (.inr (y24.1, (0 : Int32))))) else
  (some (.inl (y19.1, y24.1))))) else
  (ltt (s2.1 + (1 : Int32)) fun x31 =>
  some (.inl (x31, s2.2)))) else
  (ltt (s2.1 + (1 : Int32)) fun x14 =>
  some (.inl (x14, s2.2)))) else
  (ltt (s2.1 + (1 : Int32)) fun x10 =>
  some (.inl (x10, s2.2))))) : Option ((Int32 × DD) ⊕ ((Int32 × DD) ⊕ (DD × Int32))))) 1000000 ((0 : Int32), M)) fun (y1 : (Int32 × DD) ⊕ (DD × Int32)) =>
  sel y1 (fun (z1k : Int32 × DD) =>
  chk (((1 : Int32)) = 0 ∨ ((1 : Int32)) = 1) <|
  some (z1k.2, (1 : Int32))) fun r9 => some r9
set_option maxHeartbeats 4000000 in
set_option maxRecDepth 100000 in
theorem kX8_cutByMarks (l : Launch) (D : va_G) (ct : CT) (ad : Nat → Nat) (Z : Nat → Nat) (G : GG) (M : DD) (sz : Nat) (a : Nat) (p0 : Option Nat) (p1 : Int32) (y : DD × Int32) (hc : a < G.1) (hk : G.2.1 a = 8) (hF : FX8_cutByMarks G M a p0 p1 = some y) : Met l yX8_cutByMarks wuX8_cutByMarks ({ frames := 1, cells := 0, slots := 0, locals := 22 }) (va_Pc [.ref (ad a), va_re ad p0, .int p1] (kB D ct ad Z G M sz)) (va_Qi (fun (q : Int32) (_ : Unit) => q = y.2) (fun _ t => kE D ct ad G (wA ad G sz) y.1 t) (wA ad G sz)) 0 0 (wA ad G sz) := by
  refine Met.ofW (cc := cX8_cutByMarks) (maxL := 5) (ret := (some .boolean)) (by decide) rfl ?_
  intro p e s m args below meth c s₁ B hml hv
  obtain ⟨rfl, hsz, hP, hK, hD0, hZ, hN⟩ := hv
  have hx := B.exec
  have hb := B.bytes
  have hr := B.returns
  have hts := atoms_spec (ws := wuX8_cutByMarks) B.pre
  have hown : s.vm.findClass RX8 = some m.cls := findClass_of_methodNamed B.named
  have hlocks := B.notSynchronized
  subst hsz
  have hD := wD_self (sz := s.heap.size) hD0
  have hA9 : ∀ q, s.heap.size ≤ q → wA ad G s.heap.size q := fun q h => Or.inr h
  generalize hAe : wA ad G s.heap.size = A at hD hA9 hZ ⊢
  have hS : va_S A s.heap s.heap [] := va_S.rf
  have hl := lv_entry ([.ref (ad a), va_re ad p0, .int p1]) (n := 5) (by cases p0 <;> exact Nat.le_of_ble_eq_true rfl)
  rw [lg_entry_eq]
  generalize (lg_sl ([.ref (ad a), va_re ad p0, .int p1]) ++ List.replicate (5 - (lg_sl ([.ref (ad a), va_re ad p0, .int p1])).length) Slot.unset).toArray = ls at hl ⊢
  have hl : lv_has ls 5 [(0, .ref (ad a)), (1, va_re ad p0), (2, .int p1)] := by have e9 : lv_args 0 [.ref (ad a), va_re ad p0, .int p1] = [(0, .ref (ad a)), (1, va_re ad p0), (2, .int p1)] := (by cases p0 <;> rfl); rw [e9] at hl; exact hl
  unfold FX8_cutByMarks at hF
  refine lv_iconst (v := (0 : Int32)) hx hb dX8_cutByMarks_0 (by decide) ?_
  refine lv_istore_n (lv' := [(3, .int (0 : Int32)), (0, .ref (ad a)), (1, va_re ad p0), (2, .int p1)]) hx hb dX8_cutByMarks_1 rfl hl (by decide) rfl (fun ls hl => ?_)
  obtain ⟨y1, hy1, hF⟩ := bnd_some hF
  have K1 : ∀ z1k : Int32 × DD, y1 = .inl z1k → ∀ (H : Heap) (locs : List Loc) (ls : Array Slot), va_P D classes (wld ct ad G z1k.2) H → va_D A (wld ct ad G z1k.2) → va_S A s.heap H locs → lv_has ls 5 [(3, .int z1k.1), (0, .ref (ad a)), (1, va_re ad p0), (2, .int p1)] → W p l e (headSpec wuX8_cutByMarks ({ frames := 1, cells := 0, slots := 0, locals := 22 })).room s m ([.ref (ad a), va_re ad p0, .int p1] : List Value).toArray below meth c H locs 0 0 (MQ below (va_Qi (fun (q : Int32) (_ : Unit) => q = y.2) (fun _ t => kE D ct ad G A y.1 t) A) ([.ref (ad a), va_re ad p0, .int p1] : List Value).toArray s 0 0 A) (F0 m 90 ls []) := by
    intro z1k hz1 H locs ls hP hD hS hl
    have hF := sel_inl (hz1 ▸ hF)
    refine lv_iconst (v := (1 : Int32)) hx hb dX8_cutByMarks_90 (by decide) ?_
    obtain ⟨hz9, hF⟩ := chk_some hF
    obtain rfl := Option.some.inj hF
    exact W.zret (v := (1 : Int32)) (ty := .boolean) hx hb hr (nar_z hz9).1 (fun t ht hW => ⟨⟨_, (), rfl, rfl, ⟨by rw [ht]; exact hP, va_K.moved hW.alike hK, hD⟩⟩, hS.F ht⟩) hS.2.2 dX8_cutByMarks_91
  have hR1 := hF
  clear hF
  refine itr_rule (fun (s2 : Int32 × DD) => ∀ (H : Heap) (locs : List Loc) (ls : Array Slot), va_P D classes (wld ct ad G s2.2) H → va_D A (wld ct ad G s2.2) → va_S A s.heap H locs → lv_has ls 5 [(3, .int s2.1), (0, .ref (ad a)), (1, va_re ad p0), (2, .int p1)] → W p l e (headSpec wuX8_cutByMarks ({ frames := 1, cells := 0, slots := 0, locals := 22 })).room s m ([.ref (ad a), va_re ad p0, .int p1] : List Value).toArray below meth c H locs 0 0 (MQ below (va_Qi (fun (q : Int32) (_ : Unit) => q = y.2) (fun _ t => kE D ct ad G A y.1 t) A) ([.ref (ad a), va_re ad p0, .int p1] : List Value).toArray s 0 0 A) (F0 m 2 ls [])) ?_ _ _ hy1 _ _ _ hP hD hS (lv_sub hl [0, 1, 2, 3] rfl)
  rintro s2 ⟨z4, hF, hwz4⟩ H locs ls hP hD hS hl
  try dsimp only at hF
  refine lv_iload_n hx hb dX8_cutByMarks_2 rfl (lv_at hl 0 rfl) ?_
  refine lv_iconst (v := (2 : Int32)) hx hb dX8_cutByMarks_3 (by decide) ?_
  refine lv_iadd hx hb dX8_cutByMarks_4 ?_
  obtain ⟨x5, ex5, hF⟩ := ltt_some hF
  refine lv_topi (fun zx5 ezx5 => ?_)
  obtain rfl : x5 = zx5 := ex5.trans ezx5.symm
  refine lv_iload_n hx hb dX8_cutByMarks_5 rfl (lv_at hl 3 rfl) ?_
  refine lv_icmp_ge (tgt := 90) hx hb dX8_cutByMarks_6 (by decide) (fun c6 => ?_) (fun c6 => ?_)
  · rw [if_pos c6] at hF
    obtain rfl := Option.some.inj hF
    exact K1 _ hwz4.symm _ _ _ hP hD hS (lv_sub hl [0, 1, 2, 3] rfl)
  · rw [if_neg c6] at hF
    refine lv_aloadq_n hx hb dX8_cutByMarks_9 rfl (lv_at hl 2 rfl) ?_
    refine lv_iload_n hx hb dX8_cutByMarks_10 rfl (lv_at hl 0 rfl) ?_
    obtain ⟨b7, ho7, hc7, hk7, hF⟩ := dr_some hF
    refine W_st (st' := [.int s2.1, .ref (ad b7)]) (by rw [va_some ho7]) ?_
    obtain ⟨hvc, hF⟩ := chk_some hF
    refine va_bald hx hb hK hP b7 0 (wld_b ct ad G s2.2 hc7 hk7) rfl hvc dX8_cutByMarks_11 ?_
    obtain ⟨x8, ex8, hF⟩ := ltt_some hF
    refine lv_topi (fun zx8 ezx8 => ?_)
    obtain rfl : x8 = zx8 := ex8.trans ezx8.symm
    refine lv_if_ne (tgt := 32) hx hb dX8_cutByMarks_12 (by decide) (fun c9 => ?_) (fun c9 => ?_)
    · rw [if_neg c9] at hF
      obtain ⟨x10, ex10, hF⟩ := ltt_some hF
      refine lv_iinc (v := x10) (lv' := [(3, .int x10), (0, .ref (ad a)), (1, va_re ad p0), (2, .int p1)]) hx hb dX8_cutByMarks_32 hl (k := 0) rfl (by rw [ex10]; rfl) (by decide) rfl (fun ls hl => ?_)
      refine lv_goto (tgt := 2) hx hb dX8_cutByMarks_35 (by decide) ?_
      obtain rfl := Option.some.inj hF
      exact hwz4 _ _ _ hP hD hS (lv_sub hl [0, 1, 2, 3] rfl)
    · rw [if_pos c9] at hF
      refine lv_aloadq_n hx hb dX8_cutByMarks_15 rfl (lv_at hl 2 rfl) ?_
      refine lv_iload_n hx hb dX8_cutByMarks_16 rfl (lv_at hl 0 rfl) ?_
      refine lv_iconst (v := (1 : Int32)) hx hb dX8_cutByMarks_17 (by decide) ?_
      refine lv_iadd hx hb dX8_cutByMarks_18 ?_
      obtain ⟨x11, ex11, hF⟩ := ltt_some hF
      refine lv_topi (fun zx11 ezx11 => ?_)
      obtain rfl : x11 = zx11 := ex11.trans ezx11.symm
      refine W_st (st' := [.int x11, .ref (ad b7)]) (by rw [va_some ho7]) ?_
      obtain ⟨hvc, hF⟩ := chk_some hF
      refine va_bald hx hb hK hP b7 0 (wld_b ct ad G s2.2 hc7 hk7) rfl hvc dX8_cutByMarks_19 ?_
      obtain ⟨x12, ex12, hF⟩ := ltt_some hF
      refine lv_topi (fun zx12 ezx12 => ?_)
      obtain rfl : x12 = zx12 := ex12.trans ezx12.symm
      refine lv_if_ne (tgt := 32) hx hb dX8_cutByMarks_20 (by decide) (fun c13 => ?_) (fun c13 => ?_)
      · rw [if_neg c13] at hF
        obtain ⟨x14, ex14, hF⟩ := ltt_some hF
        refine lv_iinc (v := x14) (lv' := [(3, .int x14), (0, .ref (ad a)), (1, va_re ad p0), (2, .int p1)]) hx hb dX8_cutByMarks_32 hl (k := 0) rfl (by rw [ex14]; rfl) (by decide) rfl (fun ls hl => ?_)
        refine lv_goto (tgt := 2) hx hb dX8_cutByMarks_35 (by decide) ?_
        obtain rfl := Option.some.inj hF
        exact hwz4 _ _ _ hP hD hS (lv_sub hl [0, 1, 2, 3] rfl)
      · rw [if_pos c13] at hF
        refine lv_aloadq_n hx hb dX8_cutByMarks_23 rfl (lv_at hl 2 rfl) ?_
        refine lv_iload_n hx hb dX8_cutByMarks_24 rfl (lv_at hl 0 rfl) ?_
        refine lv_iconst (v := (2 : Int32)) hx hb dX8_cutByMarks_25 (by decide) ?_
        refine lv_iadd hx hb dX8_cutByMarks_26 ?_
        obtain ⟨x15, ex15, hF⟩ := ltt_some hF
        refine lv_topi (fun zx15 ezx15 => ?_)
        obtain rfl : x15 = zx15 := ex15.trans ezx15.symm
        refine W_st (st' := [.int x15, .ref (ad b7)]) (by rw [va_some ho7]) ?_
        obtain ⟨hvc, hF⟩ := chk_some hF
        refine va_bald hx hb hK hP b7 0 (wld_b ct ad G s2.2 hc7 hk7) rfl hvc dX8_cutByMarks_27 ?_
        obtain ⟨x16, ex16, hF⟩ := ltt_some hF
        refine lv_topi (fun zx16 ezx16 => ?_)
        obtain rfl : x16 = zx16 := ex16.trans ezx16.symm
        refine lv_iconst (v := (1 : Int32)) hx hb dX8_cutByMarks_28 (by decide) ?_
        refine lv_icmp_eq (tgt := 38) hx hb dX8_cutByMarks_29 (by decide) (fun c17 => ?_) (fun c17 => ?_)
        · rw [if_pos c17] at hF
          refine lv_iload_n hx hb dX8_cutByMarks_38 rfl (lv_at hl 0 rfl) ?_
          refine lv_iconst (v := (3 : Int32)) hx hb dX8_cutByMarks_39 (by decide) ?_
          refine lv_iadd hx hb dX8_cutByMarks_40 ?_
          obtain ⟨x18, ex18, hF⟩ := ltt_some hF
          refine lv_topi (fun zx18 ezx18 => ?_)
          obtain rfl : x18 = zx18 := ex18.trans ezx18.symm
          refine lv_istore (lv' := [(4, .int x18), (3, .int s2.1), (0, .ref (ad a)), (1, va_re ad p0), (2, .int p1)]) hx hb dX8_cutByMarks_41 hl (by decide) rfl (fun ls hl => ?_)
          refine lv_iload hx hb dX8_cutByMarks_43 (lv_at hl 0 rfl) ?_
          refine lv_istore_n (lv' := [(3, .int x18), (4, .int x18), (0, .ref (ad a)), (1, va_re ad p0), (2, .int p1)]) hx hb dX8_cutByMarks_45 rfl hl (by decide) rfl (fun ls hl => ?_)
          obtain ⟨y19, hy19, hF⟩ := bnd_some hF
          have K19 : ∀ (H : Heap) (locs : List Loc) (ls : Array Slot), va_P D classes (wld ct ad G y19.2) H → va_D A (wld ct ad G y19.2) → va_S A s.heap H locs → lv_has ls 5 [(3, .int y19.1), (4, .int x18), (0, .ref (ad a)), (1, va_re ad p0), (2, .int p1)] → W p l e (headSpec wuX8_cutByMarks ({ frames := 1, cells := 0, slots := 0, locals := 22 })).room s m ([.ref (ad a), va_re ad p0, .int p1] : List Value).toArray below meth c H locs 0 0 (MQ below (va_Qi (fun (q : Int32) (_ : Unit) => q = y.2) (fun _ t => kE D ct ad G A y.1 t) A) ([.ref (ad a), va_re ad p0, .int p1] : List Value).toArray s 0 0 A) (F0 m 66 ls []) := by
            intro H locs ls hP hD hS hl
            refine lv_iload_n hx hb dX8_cutByMarks_66 rfl (lv_at hl 0 rfl) ?_
            refine lv_iload hx hb dX8_cutByMarks_67 (lv_at hl 1 rfl) ?_
            refine lv_icmp_le (tgt := 87) hx hb dX8_cutByMarks_69 (by decide) (fun c22 => ?_) (fun c22 => ?_)
            · rw [if_pos c22] at hF
              refine lv_goto (tgt := 2) hx hb dX8_cutByMarks_87 (by decide) ?_
              obtain rfl := Option.some.inj hF
              exact hwz4 _ _ _ hP hD hS (lv_sub hl [0, 2, 3, 4] rfl)
            · rw [if_neg c22] at hF
              refine lv_aload_n hx hb dX8_cutByMarks_72 rfl (lv_at hl 2 rfl) ?_
              refine lv_iload hx hb dX8_cutByMarks_73 (lv_at hl 1 rfl) ?_
              refine lv_iload_n hx hb dX8_cutByMarks_75 rfl (lv_at hl 0 rfl) ?_
              refine lv_iload hx hb dX8_cutByMarks_76 (lv_at hl 1 rfl) ?_
              refine lv_isub hx hb dX8_cutByMarks_78 ?_
              obtain ⟨x23, ex23, hF⟩ := ltt_some hF
              refine lv_topi (fun zx23 ezx23 => ?_)
              obtain rfl : x23 = zx23 := ex23.trans ezx23.symm
              obtain ⟨y24, hy24, hF⟩ := bnd_some hF
              have hf9 := wA_in hD hA9 hS
              refine va_calli (va_runV (As := [.int x18, .int x23]) (rest := []) ⟨hx, hb, hml, hown, hts⟩ (kX8_note l D ct ad Z G y19.2 H.size a x18 x23 y24 hc hk hy24) (cwV 2 hts gX8_cutByMarks_X8_note rfl rfl rfl (by decide +kernel) ⟨Nat.le_of_ble_eq_true rfl, Nat.le_of_ble_eq_true rfl⟩) ⟨fun a U g mk q => by obtain ⟨q0, q1, qP, qK, qD, qZ, qN⟩ := q; exact ⟨q0, q1, qP, va_K.moved (u := U) (U := U.calling g mk a) (Vm.Alike.refl U.vm) qK, qD, sF.moved (u := U) (U := U.calling g mk a) (Vm.Alike.refl U.vm) qZ, nF.same rfl qN⟩, va_recv hK hP (ci := 8) (q0 := a) rfl (wld_o ct ad G y19.2 hc hk (by decide)), fun U hU hW => ⟨rfl, by rw [hU], by rw [hU]; exact hP, va_K.moved hW.alike hK, hD.weaken (fun _ _ _ _ => trivial), by rw [hU]; exact ((hZ.kept hS.2.1).narrow hf9).moved hW.alike, hN.warm hW⟩⟩ rfl rfl hl.1 rfl (lv_room (Nat.le_of_ble_eq_true rfl)) dX8_cutByMarks_79 ⟨(Nat.zero_le _), (Nat.zero_le _)⟩) hS (fun q _ h => hf9 q h) hf9 (fun r u t H locs ht hvm hw hB hz1 hk1 hS => ?_)
              obtain ⟨hP, hK9, hD9⟩ := hB
              rw [ht] at hP
              try dsimp only at hw
              subst hw
              have hD := hD9.weaken (fun _ q _ h => hf9 q.1 h)
              refine lv_if_ne (tgt := 87) hx hb dX8_cutByMarks_82 (by decide) (fun c25 => ?_) (fun c25 => ?_)
              · rw [if_neg c25] at hF
                refine lv_goto (tgt := 2) hx hb dX8_cutByMarks_87 (by decide) ?_
                obtain rfl := Option.some.inj hF
                exact hwz4 _ _ _ hP hD hS (lv_sub hl [0, 2, 3, 4] rfl)
              · rw [if_pos c25] at hF
                refine lv_iconst (v := (0 : Int32)) hx hb dX8_cutByMarks_85 (by decide) ?_
                obtain ⟨hz9, hF⟩ := chk_some hF
                obtain rfl := Option.some.inj hF
                have hF := sel_inr (hwz4 ▸ hR1)
                obtain rfl := Option.some.inj hF
                exact W.zret (v := (0 : Int32)) (ty := .boolean) hx hb hr (nar_z hz9).1 (fun t ht hW => ⟨⟨_, (), rfl, rfl, ⟨by rw [ht]; exact hP, va_K.moved hW.alike hK, hD⟩⟩, hS.F ht⟩) hS.2.2 dX8_cutByMarks_86
          clear hF
          refine itr_rule (fun (s20 : Int32 × DD) => ∀ (H : Heap) (locs : List Loc) (ls : Array Slot), va_P D classes (wld ct ad G s20.2) H → va_D A (wld ct ad G s20.2) → va_S A s.heap H locs → lv_has ls 5 [(3, .int s20.1), (4, .int x18), (0, .ref (ad a)), (1, va_re ad p0), (2, .int p1)] → W p l e (headSpec wuX8_cutByMarks ({ frames := 1, cells := 0, slots := 0, locals := 22 })).room s m ([.ref (ad a), va_re ad p0, .int p1] : List Value).toArray below meth c H locs 0 0 (MQ below (va_Qi (fun (q : Int32) (_ : Unit) => q = y.2) (fun _ t => kE D ct ad G A y.1 t) A) ([.ref (ad a), va_re ad p0, .int p1] : List Value).toArray s 0 0 A) (F0 m 46 ls [])) ?_ _ _ hy19 _ _ _ hP hD hS (lv_sub hl [0, 1, 2, 3, 4] rfl)
          rintro s20 ⟨z26, hF, hwz26⟩ H locs ls hP hD hS hl
          try dsimp only at hF
          refine lv_iload_n hx hb dX8_cutByMarks_46 rfl (lv_at hl 0 rfl) ?_
          refine lv_iload_n hx hb dX8_cutByMarks_47 rfl (lv_at hl 4 rfl) ?_
          refine lv_icmp_ge (tgt := 66) hx hb dX8_cutByMarks_48 (by decide) (fun c27 => ?_) (fun c27 => ?_)
          · rw [if_pos c27] at hF
            obtain rfl := Option.some.inj hF
            subst hwz26
            exact K19 _ _ _ hP hD hS (lv_sub hl [0, 1, 2, 3, 4] rfl)
          · rw [if_neg c27] at hF
            refine lv_aloadq_n hx hb dX8_cutByMarks_51 rfl (lv_at hl 3 rfl) ?_
            refine lv_iload_n hx hb dX8_cutByMarks_52 rfl (lv_at hl 0 rfl) ?_
            refine lv_iload_n hx hb dX8_cutByMarks_53 rfl (lv_at hl 4 rfl) ?_
            obtain ⟨y28, hy28, hF⟩ := bnd_some hF
            have hf9 := wA_in hD hA9 hS
            refine va_calli (va_runS (As := [va_re ad p0, .int s20.1, .int p1]) (rest := []) ⟨hx, hb, hml, hown, hts⟩ (kX8_endsUnit l D ct ad Z G s20.2 H.size p0 s20.1 p1 y28 hy28) (va_cwS 3 hts gX8_cutByMarks_X8_endsUnit rfl rfl rfl (by decide +kernel) ⟨Nat.le_of_ble_eq_true rfl, Nat.le_of_ble_eq_true rfl⟩) ⟨fun a U g mk q => by obtain ⟨q0, q1, qP, qK, qD, qZ, qN⟩ := q; exact ⟨q0, q1, qP, va_K.moved (u := U) (U := U.calling g mk a) (Vm.Alike.refl U.vm) qK, qD, sF.moved (u := U) (U := U.calling g mk a) (Vm.Alike.refl U.vm) qZ, nF.same rfl qN⟩, fun U hU hW => ⟨rfl, by rw [hU], by rw [hU]; exact hP, va_K.moved hW.alike hK, hD.weaken (fun _ _ _ _ => trivial), by rw [hU]; exact ((hZ.kept hS.2.1).narrow hf9).moved hW.alike, hN.warm hW⟩⟩ rfl rfl hl.1 rfl (lv_room (Nat.le_of_ble_eq_true rfl)) dX8_cutByMarks_54 ⟨(Nat.zero_le _), (Nat.zero_le _)⟩) hS (fun q _ h => hf9 q h) hf9 (fun r u t H locs ht hvm hw hB hz1 hk1 hS => ?_)
            obtain ⟨hP, hK9, hD9⟩ := hB
            rw [ht] at hP
            try dsimp only at hw
            subst hw
            have hD := hD9.weaken (fun _ q _ h => hf9 q.1 h)
            refine lv_if_ne (tgt := 66) hx hb dX8_cutByMarks_57 (by decide) (fun c29 => ?_) (fun c29 => ?_)
            · rw [if_neg c29] at hF
              obtain rfl := Option.some.inj hF
              subst hwz26
              exact K19 _ _ _ hP hD hS (lv_sub hl [0, 1, 2, 3, 4] rfl)
            · rw [if_pos c29] at hF
              obtain ⟨x30, ex30, hF⟩ := ltt_some hF
              refine lv_iinc (v := x30) (lv' := [(3, .int x30), (4, .int x18), (0, .ref (ad a)), (1, va_re ad p0), (2, .int p1)]) hx hb dX8_cutByMarks_60 hl (k := 0) rfl (by rw [ex30]; rfl) (by decide) rfl (fun ls hl => ?_)
              refine lv_goto (tgt := 46) hx hb dX8_cutByMarks_63 (by decide) ?_
              obtain rfl := Option.some.inj hF
              exact hwz26 _ _ _ hP hD hS (lv_sub hl [0, 1, 2, 3, 4] rfl)
        · rw [if_neg c17] at hF
          obtain ⟨x31, ex31, hF⟩ := ltt_some hF
          refine lv_iinc (v := x31) (lv' := [(3, .int x31), (0, .ref (ad a)), (1, va_re ad p0), (2, .int p1)]) hx hb dX8_cutByMarks_32 hl (k := 0) rfl (by rw [ex31]; rfl) (by decide) rfl (fun ls hl => ?_)
          refine lv_goto (tgt := 2) hx hb dX8_cutByMarks_35 (by decide) ?_
          obtain rfl := Option.some.inj hF
          exact hwz4 _ _ _ hP hD hS (lv_sub hl [0, 1, 2, 3] rfl)
