set_option maxRecDepth 20000 in
theorem gX8_cutByTables_X8_number4 : GoodIn wuX8_cutByTables (va_wsS RX8 104 yX8_number4 wuX8_number4) := gu_S mw_2828 mw_2829 mw_167 mw_2830
set_option maxRecDepth 20000 in
set_option maxRecDepth 20000 in
theorem gX8_cutByTables_X8_cutByLengths : GoodIn wuX8_cutByTables (wsV RX8 118 RX8 yX8_cutByLengths wuX8_cutByLengths) := gu_V mw_2842 mw_2843 mw_2844 mw_167 mw_2845
theorem dX8_cutByTables_0 : decode cX8_cutByTables 0 = .ok (.aload_n 0, 1) := by decide +kernel
theorem dX8_cutByTables_1 : decode cX8_cutByTables 1 = .ok (.getfield 35, 3) := by decide +kernel
theorem dX8_cutByTables_4 : decode cX8_cutByTables 4 = .ok (.iconst 0, 1) := by decide +kernel
theorem dX8_cutByTables_5 : decode cX8_cutByTables 5 = .ok (.iaload, 1) := by decide +kernel
theorem dX8_cutByTables_6 : decode cX8_cutByTables 6 = .ok (.ifCond .lt 34, 3) := by decide +kernel
theorem dX8_cutByTables_9 : decode cX8_cutByTables 9 = .ok (.aload_n 0, 1) := by decide +kernel
theorem dX8_cutByTables_10 : decode cX8_cutByTables 10 = .ok (.getfield 35, 3) := by decide +kernel
theorem dX8_cutByTables_13 : decode cX8_cutByTables 13 = .ok (.iconst 2, 1) := by decide +kernel
theorem dX8_cutByTables_14 : decode cX8_cutByTables 14 = .ok (.iaload, 1) := by decide +kernel
theorem dX8_cutByTables_15 : decode cX8_cutByTables 15 = .ok (.ifCond .lt 25, 3) := by decide +kernel
theorem dX8_cutByTables_18 : decode cX8_cutByTables 18 = .ok (.aload_n 0, 1) := by decide +kernel
theorem dX8_cutByTables_19 : decode cX8_cutByTables 19 = .ok (.getfield 35, 3) := by decide +kernel
theorem dX8_cutByTables_22 : decode cX8_cutByTables 22 = .ok (.iconst 1, 1) := by decide +kernel
theorem dX8_cutByTables_23 : decode cX8_cutByTables 23 = .ok (.iaload, 1) := by decide +kernel
theorem dX8_cutByTables_24 : decode cX8_cutByTables 24 = .ok (.bipush 12, 2) := by decide +kernel
theorem dX8_cutByTables_26 : decode cX8_cutByTables 26 = .ok (.if_icmp .lt 14, 3) := by decide +kernel
theorem dX8_cutByTables_29 : decode cX8_cutByTables 29 = .ok (.aload_n 0, 1) := by decide +kernel
theorem dX8_cutByTables_30 : decode cX8_cutByTables 30 = .ok (.getfield 35, 3) := by decide +kernel
theorem dX8_cutByTables_33 : decode cX8_cutByTables 33 = .ok (.iconst 3, 1) := by decide +kernel
theorem dX8_cutByTables_34 : decode cX8_cutByTables 34 = .ok (.iaload, 1) := by decide +kernel
theorem dX8_cutByTables_35 : decode cX8_cutByTables 35 = .ok (.bipush 12, 2) := by decide +kernel
theorem dX8_cutByTables_37 : decode cX8_cutByTables 37 = .ok (.if_icmp .ge 5, 3) := by decide +kernel
theorem dX8_cutByTables_40 : decode cX8_cutByTables 40 = .ok (.iconst 0, 1) := by decide +kernel
theorem dX8_cutByTables_41 : decode cX8_cutByTables 41 = .ok (.ireturn, 1) := by decide +kernel
theorem dX8_cutByTables_42 : decode cX8_cutByTables 42 = .ok (.aload_n 1, 1) := by decide +kernel
theorem dX8_cutByTables_43 : decode cX8_cutByTables 43 = .ok (.aload_n 0, 1) := by decide +kernel
theorem dX8_cutByTables_44 : decode cX8_cutByTables 44 = .ok (.getfield 35, 3) := by decide +kernel
theorem dX8_cutByTables_47 : decode cX8_cutByTables 47 = .ok (.iconst 0, 1) := by decide +kernel
theorem dX8_cutByTables_48 : decode cX8_cutByTables 48 = .ok (.iaload, 1) := by decide +kernel
theorem dX8_cutByTables_49 : decode cX8_cutByTables 49 = .ok (.bipush 8, 2) := by decide +kernel
theorem dX8_cutByTables_51 : decode cX8_cutByTables 51 = .ok (.iadd, 1) := by decide +kernel
theorem dX8_cutByTables_52 : decode cX8_cutByTables 52 = .ok (.invokestatic 104, 3) := by decide +kernel
theorem dX8_cutByTables_55 : decode cX8_cutByTables 55 = .ok (.lstore_n 3, 1) := by decide +kernel
theorem dX8_cutByTables_56 : decode cX8_cutByTables 56 = .ok (.ldc2_w 114, 3) := by decide +kernel
theorem dX8_cutByTables_59 : decode cX8_cutByTables 59 = .ok (.ldc2_w 116, 3) := by decide +kernel
theorem dX8_cutByTables_62 : decode cX8_cutByTables 62 = .ok (.lload_n 3, 1) := by decide +kernel
theorem dX8_cutByTables_63 : decode cX8_cutByTables 63 = .ok (.lmul, 1) := by decide +kernel
theorem dX8_cutByTables_64 : decode cX8_cutByTables 64 = .ok (.ladd, 1) := by decide +kernel
theorem dX8_cutByTables_65 : decode cX8_cutByTables 65 = .ok (.aload_n 0, 1) := by decide +kernel
theorem dX8_cutByTables_66 : decode cX8_cutByTables 66 = .ok (.getfield 35, 3) := by decide +kernel
theorem dX8_cutByTables_69 : decode cX8_cutByTables 69 = .ok (.iconst 1, 1) := by decide +kernel
theorem dX8_cutByTables_70 : decode cX8_cutByTables 70 = .ok (.iaload, 1) := by decide +kernel
theorem dX8_cutByTables_71 : decode cX8_cutByTables 71 = .ok (.i2l, 1) := by decide +kernel
theorem dX8_cutByTables_72 : decode cX8_cutByTables 72 = .ok (.lcmp, 1) := by decide +kernel
theorem dX8_cutByTables_73 : decode cX8_cutByTables 73 = .ok (.ifCond .le 5, 3) := by decide +kernel
theorem dX8_cutByTables_76 : decode cX8_cutByTables 76 = .ok (.iconst 0, 1) := by decide +kernel
theorem dX8_cutByTables_77 : decode cX8_cutByTables 77 = .ok (.ireturn, 1) := by decide +kernel
theorem dX8_cutByTables_78 : decode cX8_cutByTables 78 = .ok (.aload_n 1, 1) := by decide +kernel
theorem dX8_cutByTables_79 : decode cX8_cutByTables 79 = .ok (.aload_n 0, 1) := by decide +kernel
theorem dX8_cutByTables_80 : decode cX8_cutByTables 80 = .ok (.getfield 35, 3) := by decide +kernel
theorem dX8_cutByTables_83 : decode cX8_cutByTables 83 = .ok (.iconst 2, 1) := by decide +kernel
theorem dX8_cutByTables_84 : decode cX8_cutByTables 84 = .ok (.iaload, 1) := by decide +kernel
theorem dX8_cutByTables_85 : decode cX8_cutByTables 85 = .ok (.bipush 8, 2) := by decide +kernel
theorem dX8_cutByTables_87 : decode cX8_cutByTables 87 = .ok (.iadd, 1) := by decide +kernel
theorem dX8_cutByTables_88 : decode cX8_cutByTables 88 = .ok (.invokestatic 104, 3) := by decide +kernel
theorem dX8_cutByTables_91 : decode cX8_cutByTables 91 = .ok (.lstore 5, 2) := by decide +kernel
theorem dX8_cutByTables_93 : decode cX8_cutByTables 93 = .ok (.iconst 0, 1) := by decide +kernel
theorem dX8_cutByTables_94 : decode cX8_cutByTables 94 = .ok (.istore 7, 2) := by decide +kernel
theorem dX8_cutByTables_96 : decode cX8_cutByTables 96 = .ok (.iload 7, 2) := by decide +kernel
theorem dX8_cutByTables_98 : decode cX8_cutByTables 98 = .ok (.i2l, 1) := by decide +kernel
theorem dX8_cutByTables_99 : decode cX8_cutByTables 99 = .ok (.lload_n 3, 1) := by decide +kernel
theorem dX8_cutByTables_100 : decode cX8_cutByTables 100 = .ok (.lcmp, 1) := by decide +kernel
theorem dX8_cutByTables_101 : decode cX8_cutByTables 101 = .ok (.ifCond .ge 67, 3) := by decide +kernel
theorem dX8_cutByTables_104 : decode cX8_cutByTables 104 = .ok (.aload_n 1, 1) := by decide +kernel
theorem dX8_cutByTables_105 : decode cX8_cutByTables 105 = .ok (.aload_n 0, 1) := by decide +kernel
theorem dX8_cutByTables_106 : decode cX8_cutByTables 106 = .ok (.getfield 35, 3) := by decide +kernel
theorem dX8_cutByTables_109 : decode cX8_cutByTables 109 = .ok (.iconst 0, 1) := by decide +kernel
theorem dX8_cutByTables_110 : decode cX8_cutByTables 110 = .ok (.iaload, 1) := by decide +kernel
theorem dX8_cutByTables_111 : decode cX8_cutByTables 111 = .ok (.bipush 12, 2) := by decide +kernel
theorem dX8_cutByTables_113 : decode cX8_cutByTables 113 = .ok (.iadd, 1) := by decide +kernel
theorem dX8_cutByTables_114 : decode cX8_cutByTables 114 = .ok (.iconst 4, 1) := by decide +kernel
theorem dX8_cutByTables_115 : decode cX8_cutByTables 115 = .ok (.iload 7, 2) := by decide +kernel
theorem dX8_cutByTables_117 : decode cX8_cutByTables 117 = .ok (.imul, 1) := by decide +kernel
theorem dX8_cutByTables_118 : decode cX8_cutByTables 118 = .ok (.iadd, 1) := by decide +kernel
theorem dX8_cutByTables_119 : decode cX8_cutByTables 119 = .ok (.invokestatic 104, 3) := by decide +kernel
theorem dX8_cutByTables_122 : decode cX8_cutByTables 122 = .ok (.lstore 8, 2) := by decide +kernel
theorem dX8_cutByTables_124 : decode cX8_cutByTables 124 = .ok (.lload 5, 2) := by decide +kernel
theorem dX8_cutByTables_126 : decode cX8_cutByTables 126 = .ok (.lload 8, 2) := by decide +kernel
theorem dX8_cutByTables_128 : decode cX8_cutByTables 128 = .ok (.ladd, 1) := by decide +kernel
theorem dX8_cutByTables_129 : decode cX8_cutByTables 129 = .ok (.iload_n 2, 1) := by decide +kernel
theorem dX8_cutByTables_130 : decode cX8_cutByTables 130 = .ok (.i2l, 1) := by decide +kernel
theorem dX8_cutByTables_131 : decode cX8_cutByTables 131 = .ok (.lcmp, 1) := by decide +kernel
theorem dX8_cutByTables_132 : decode cX8_cutByTables 132 = .ok (.ifCond .gt 21, 3) := by decide +kernel
theorem dX8_cutByTables_135 : decode cX8_cutByTables 135 = .ok (.aload_n 0, 1) := by decide +kernel
theorem dX8_cutByTables_136 : decode cX8_cutByTables 136 = .ok (.aload_n 1, 1) := by decide +kernel
theorem dX8_cutByTables_137 : decode cX8_cutByTables 137 = .ok (.lload 5, 2) := by decide +kernel
theorem dX8_cutByTables_139 : decode cX8_cutByTables 139 = .ok (.l2i, 1) := by decide +kernel
theorem dX8_cutByTables_140 : decode cX8_cutByTables 140 = .ok (.lload 5, 2) := by decide +kernel
theorem dX8_cutByTables_142 : decode cX8_cutByTables 142 = .ok (.lload 8, 2) := by decide +kernel
theorem dX8_cutByTables_144 : decode cX8_cutByTables 144 = .ok (.ladd, 1) := by decide +kernel
theorem dX8_cutByTables_145 : decode cX8_cutByTables 145 = .ok (.l2i, 1) := by decide +kernel
theorem dX8_cutByTables_146 : decode cX8_cutByTables 146 = .ok (.iconst 4, 1) := by decide +kernel
theorem dX8_cutByTables_147 : decode cX8_cutByTables 147 = .ok (.invokevirtual 118, 3) := by decide +kernel
theorem dX8_cutByTables_150 : decode cX8_cutByTables 150 = .ok (.ifCond .ne 5, 3) := by decide +kernel
theorem dX8_cutByTables_153 : decode cX8_cutByTables 153 = .ok (.iconst 0, 1) := by decide +kernel
theorem dX8_cutByTables_154 : decode cX8_cutByTables 154 = .ok (.ireturn, 1) := by decide +kernel
theorem dX8_cutByTables_155 : decode cX8_cutByTables 155 = .ok (.lload 5, 2) := by decide +kernel
theorem dX8_cutByTables_157 : decode cX8_cutByTables 157 = .ok (.lload 8, 2) := by decide +kernel
theorem dX8_cutByTables_159 : decode cX8_cutByTables 159 = .ok (.ladd, 1) := by decide +kernel
theorem dX8_cutByTables_160 : decode cX8_cutByTables 160 = .ok (.lstore 5, 2) := by decide +kernel
theorem dX8_cutByTables_162 : decode cX8_cutByTables 162 = .ok (.iinc 7 1, 3) := by decide +kernel
theorem dX8_cutByTables_165 : decode cX8_cutByTables 165 = .ok (.goto (-69), 3) := by decide +kernel
theorem dX8_cutByTables_168 : decode cX8_cutByTables 168 = .ok (.iconst 1, 1) := by decide +kernel
theorem dX8_cutByTables_169 : decode cX8_cutByTables 169 = .ok (.ireturn, 1) := by decide +kernel
def FX8_cutByTables (G : GG) (M : DD) (a : Nat) (p0 : Option Nat) (p1 : Int32) : Option (DD × Int32) :=
  dr G 13 ((M.2 a 12)) fun b2 =>
  chk (¬ (((0 : Int32)) < 0 ∨ G.2.2 b2 ≤ ((0 : Int32)).toNatClampNeg)) <|
  ltt (M.1 b2 ((0 : Int32)).toNatClampNeg) fun x3 =>
  if x3 < ((0 : Int32)) then (chk (((0 : Int32)) = 0 ∨ ((0 : Int32)) = 1) <|
  some (M, (0 : Int32))) else
  (chk (¬ (((2 : Int32)) < 0 ∨ G.2.2 b2 ≤ ((2 : Int32)).toNatClampNeg)) <|
  ltt (M.1 b2 ((2 : Int32)).toNatClampNeg) fun x5 =>
  if x5 < ((0 : Int32)) then (chk (((0 : Int32)) = 0 ∨ ((0 : Int32)) = 1) <|
  some (M, (0 : Int32))) else
  (chk (¬ (((1 : Int32)) < 0 ∨ G.2.2 b2 ≤ ((1 : Int32)).toNatClampNeg)) <|
  ltt (M.1 b2 ((1 : Int32)).toNatClampNeg) fun x7 =>
  if x7 < ((12 : Int32)) then (chk (((0 : Int32)) = 0 ∨ ((0 : Int32)) = 1) <|
  some (M, (0 : Int32))) else
  (chk (¬ (((3 : Int32)) < 0 ∨ G.2.2 b2 ≤ ((3 : Int32)).toNatClampNeg)) <|
  ltt (M.1 b2 ((3 : Int32)).toNatClampNeg) fun x9 =>
  if ((12 : Int32)) ≤ x9 then (chk (¬ (((0 : Int32)) < 0 ∨ G.2.2 b2 ≤ ((0 : Int32)).toNatClampNeg)) <|
  ltt (M.1 b2 ((0 : Int32)).toNatClampNeg) fun x11 =>
  ltt ((x11 + ((8 : Int32)))) fun x12 =>
  bnd (FX8_number4 G M p0 x12) fun y13 =>
  ltt (((4 : Int64)) * y13.2) fun x14 =>
  ltt (((12 : Int64)) + x14) fun x15 =>
  dr G 13 ((y13.1.2 a 12)) fun b16 =>
  chk (¬ (((1 : Int32)) < 0 ∨ G.2.2 b16 ≤ ((1 : Int32)).toNatClampNeg)) <|
  ltt (y13.1.1 b16 ((1 : Int32)).toNatClampNeg) fun x17 =>
  ltt (x17.toInt64) fun x18 =>
  ltt (lg_cmp x15 x18) fun x19 =>
  if x19 ≤ ((0 : Int32)) then (chk (¬ (((2 : Int32)) < 0 ∨ G.2.2 b16 ≤ ((2 : Int32)).toNatClampNeg)) <|
  ltt (y13.1.1 b16 ((2 : Int32)).toNatClampNeg) fun x21 =>
  ltt ((x21 + ((8 : Int32)))) fun x22 =>
  bnd (FX8_number4 G y13.1 p0 x22) fun y23 =>
  bnd (itr (fun (s25 : Int64 × Int32 × DD) => ((ltt (s25.2.1.toInt64) fun x28 =>
  ltt (lg_cmp x28 y13.2) fun x29 =>
  if ((0 : Int32)) ≤ x29 then (some (.inr (.inl (s25.1, s25.2.1, s25.2.2)))) else
  (dr G 13 ((s25.2.2.2 a 12)) fun b31 =>
  chk (¬ (((0 : Int32)) < 0 ∨ G.2.2 b31 ≤ ((0 : Int32)).toNatClampNeg)) <|
  ltt (s25.2.2.1 b31 ((0 : Int32)).toNatClampNeg) fun x32 =>
  ltt ((x32 + ((12 : Int32)))) fun x33 =>
  ltt ((((4 : Int32)) * s25.2.1)) fun x34 =>
  ltt ((x33 + x34)) fun x35 =>
  bnd (FX8_number4 G s25.2.2 p0 x35) fun y36 =>
  ltt (s25.1 + y36.2) fun x37 =>
  ltt (p1.toInt64) fun x38 =>
  ltt (lg_cmp x37 x38) fun x39 =>
  if ((0 : Int32)) < x39 then (chk (((0 : Int32)) = 0 ∨ ((0 : Int32)) = 1) <|
  some (.inr (.inr (y36.1, (0 : Int32))))) else
  (ltt (s25.1.toInt32) fun x41 =>
  ltt (s25.1 + y36.2) fun x42 =>
  ltt (x42.toInt32) fun x43 =>
  bnd (FX8_cutByLengths G y36.1 a p0 x41 x43 ((4 : Int32))) fun y44 =>
  if y44.2 = ((0 : Int32)) then (chk (((0 : Int32)) = 0 ∨ ((0 : Int32)) = 1) <|
  some (.inr (.inr (y44.1, (0 : Int32))))) else
  (ltt (s25.1 + y36.2) fun x46 =>
  ltt (s25.2.1 + (1 : Int32)) fun x47 =>
  some (.inl (x46, x47, y44.1)))))) : Option ((Int64 × Int32 × DD) ⊕ ((Int64 × Int32 × DD) ⊕ (DD × Int32))))) 1000000 (y23.2, (0 : Int32), y23.1)) fun (y24 : (Int64 × Int32 × DD) ⊕ (DD × Int32)) =>
  sel y24 (fun (z24k : Int64 × Int32 × DD) =>
  chk (((1 : Int32)) = 0 ∨ ((1 : Int32)) = 1) <|
  some (z24k.2.2, (1 : Int32))) fun r9 => some r9) else
  (chk (((0 : Int32)) = 0 ∨ ((0 : Int32)) = 1) <|
  some (y13.1, (0 : Int32)))) else
  (chk (((0 : Int32)) = 0 ∨ ((0 : Int32)) = 1) <|
  some (M, (0 : Int32))))))
set_option maxHeartbeats 4000000 in
set_option maxRecDepth 100000 in
theorem kX8_cutByTables (l : Launch) (D : va_G) (ct : CT) (ad : Nat → Nat) (Z : Nat → Nat) (G : GG) (M : DD) (sz : Nat) (a : Nat) (p0 : Option Nat) (p1 : Int32) (y : DD × Int32) (hc : a < G.1) (hk : G.2.1 a = 8) (hF : FX8_cutByTables G M a p0 p1 = some y) : Met l yX8_cutByTables wuX8_cutByTables ({ frames := 2, cells := 0, slots := 0, locals := 50 }) (va_Pc [.ref (ad a), va_re ad p0, .int p1] (kB D ct ad Z G M sz)) (va_Qi (fun (q : Int32) (_ : Unit) => q = y.2) (fun _ t => kE D ct ad G (wA ad G sz) y.1 t) (wA ad G sz)) 0 0 (wA ad G sz) := by
  refine Met.ofW (cc := cX8_cutByTables) (maxL := 10) (ret := (some .boolean)) (by decide) rfl ?_
  intro p e s m args below meth c s₁ B hml hv
  obtain ⟨rfl, hsz, hP, hK, hD0, hZ, hN⟩ := hv
  have hx := B.exec
  have hb := B.bytes
  have hr := B.returns
  have hts := atoms_spec (ws := wuX8_cutByTables) B.pre
  have hown : s.vm.findClass RX8 = some m.cls := findClass_of_methodNamed B.named
  have hlocks := B.notSynchronized
  subst hsz
  have hD := wD_self (sz := s.heap.size) hD0
  have hA9 : ∀ q, s.heap.size ≤ q → wA ad G s.heap.size q := fun q h => Or.inr h
  generalize hAe : wA ad G s.heap.size = A at hD hA9 hZ ⊢
  have hS : va_S A s.heap s.heap [] := va_S.rf
  have hl := lv_entry ([.ref (ad a), va_re ad p0, .int p1]) (n := 10) (by cases p0 <;> exact Nat.le_of_ble_eq_true rfl)
  rw [lg_entry_eq]
  generalize (lg_sl ([.ref (ad a), va_re ad p0, .int p1]) ++ List.replicate (10 - (lg_sl ([.ref (ad a), va_re ad p0, .int p1])).length) Slot.unset).toArray = ls at hl ⊢
  have hl : lv_has ls 10 [(0, .ref (ad a)), (1, va_re ad p0), (2, .int p1)] := by have e9 : lv_args 0 [.ref (ad a), va_re ad p0, .int p1] = [(0, .ref (ad a)), (1, va_re ad p0), (2, .int p1)] := (by cases p0 <;> rfl); rw [e9] at hl; exact hl
  unfold FX8_cutByTables at hF
  refine lv_aload_n hx hb dX8_cutByTables_0 rfl (lv_at hl 0 rfl) ?_
  refine va_get (D := D) (ci := 8) (v := va_re ad (M.2 a 12)) (C := RX8) (T := TX8) (N := 15) hx hb hts (mus hf_X8) hown hK hP a (wld_o ct ad G M hc hk (by decide)) rfl 12 (by decide) (hts (.fieldLink RX8 35 "VideoSuite$Units" "table" "[I") (mu mw_231)) (fun _ h9 => h9) rfl dX8_cutByTables_1 ?_
  refine lv_iconst (v := (0 : Int32)) hx hb dX8_cutByTables_4 (by decide) ?_
  obtain ⟨b2, ho2, hc2, hk2, hF⟩ := dr_some hF
  refine W_st (st' := [.int (0 : Int32), .ref (ad b2)]) (by rw [va_some ho2]) ?_
  obtain ⟨hvc, hF⟩ := chk_some hF
  refine va_iald hx hb hK hP b2 1 (wld_i ct ad G M hc2 hk2) rfl hvc dX8_cutByTables_5 ?_
  obtain ⟨x3, ex3, hF⟩ := ltt_some hF
  refine lv_topi (fun zx3 ezx3 => ?_)
  obtain rfl : x3 = zx3 := ex3.trans ezx3.symm
  refine lv_if_lt (tgt := 40) hx hb dX8_cutByTables_6 (by decide) (fun c4 => ?_) (fun c4 => ?_)
  · rw [if_pos c4] at hF
    refine lv_iconst (v := (0 : Int32)) hx hb dX8_cutByTables_40 (by decide) ?_
    obtain ⟨hz9, hF⟩ := chk_some hF
    obtain rfl := Option.some.inj hF
    exact W.zret (v := (0 : Int32)) (ty := .boolean) hx hb hr (nar_z hz9).1 (fun t ht hW => ⟨⟨_, (), rfl, rfl, ⟨by rw [ht]; exact hP, va_K.moved hW.alike hK, hD⟩⟩, hS.F ht⟩) hS.2.2 dX8_cutByTables_41
  · rw [if_neg c4] at hF
    refine lv_aload_n hx hb dX8_cutByTables_9 rfl (lv_at hl 0 rfl) ?_
    refine va_get (D := D) (ci := 8) (v := va_re ad (M.2 a 12)) (C := RX8) (T := TX8) (N := 15) hx hb hts (mus hf_X8) hown hK hP a (wld_o ct ad G M hc hk (by decide)) rfl 12 (by decide) (hts (.fieldLink RX8 35 "VideoSuite$Units" "table" "[I") (mu mw_231)) (fun _ h9 => h9) rfl dX8_cutByTables_10 ?_
    refine lv_iconst (v := (2 : Int32)) hx hb dX8_cutByTables_13 (by decide) ?_
    refine W_st (st' := [.int (2 : Int32), .ref (ad b2)]) (by rw [va_some ho2]) ?_
    obtain ⟨hvc, hF⟩ := chk_some hF
    refine va_iald hx hb hK hP b2 1 (wld_i ct ad G M hc2 hk2) rfl hvc dX8_cutByTables_14 ?_
    obtain ⟨x5, ex5, hF⟩ := ltt_some hF
    refine lv_topi (fun zx5 ezx5 => ?_)
    obtain rfl : x5 = zx5 := ex5.trans ezx5.symm
    refine lv_if_lt (tgt := 40) hx hb dX8_cutByTables_15 (by decide) (fun c6 => ?_) (fun c6 => ?_)
    · rw [if_pos c6] at hF
      refine lv_iconst (v := (0 : Int32)) hx hb dX8_cutByTables_40 (by decide) ?_
      obtain ⟨hz9, hF⟩ := chk_some hF
      obtain rfl := Option.some.inj hF
      exact W.zret (v := (0 : Int32)) (ty := .boolean) hx hb hr (nar_z hz9).1 (fun t ht hW => ⟨⟨_, (), rfl, rfl, ⟨by rw [ht]; exact hP, va_K.moved hW.alike hK, hD⟩⟩, hS.F ht⟩) hS.2.2 dX8_cutByTables_41
    · rw [if_neg c6] at hF
      refine lv_aload_n hx hb dX8_cutByTables_18 rfl (lv_at hl 0 rfl) ?_
      refine va_get (D := D) (ci := 8) (v := va_re ad (M.2 a 12)) (C := RX8) (T := TX8) (N := 15) hx hb hts (mus hf_X8) hown hK hP a (wld_o ct ad G M hc hk (by decide)) rfl 12 (by decide) (hts (.fieldLink RX8 35 "VideoSuite$Units" "table" "[I") (mu mw_231)) (fun _ h9 => h9) rfl dX8_cutByTables_19 ?_
      refine lv_iconst (v := (1 : Int32)) hx hb dX8_cutByTables_22 (by decide) ?_
      refine W_st (st' := [.int (1 : Int32), .ref (ad b2)]) (by rw [va_some ho2]) ?_
      obtain ⟨hvc, hF⟩ := chk_some hF
      refine va_iald hx hb hK hP b2 1 (wld_i ct ad G M hc2 hk2) rfl hvc dX8_cutByTables_23 ?_
      obtain ⟨x7, ex7, hF⟩ := ltt_some hF
      refine lv_topi (fun zx7 ezx7 => ?_)
      obtain rfl : x7 = zx7 := ex7.trans ezx7.symm
      refine lv_bipush (v := (12 : Int32)) hx hb dX8_cutByTables_24 (by decide) ?_
      refine lv_icmp_lt (tgt := 40) hx hb dX8_cutByTables_26 (by decide) (fun c8 => ?_) (fun c8 => ?_)
      · rw [if_pos c8] at hF
        refine lv_iconst (v := (0 : Int32)) hx hb dX8_cutByTables_40 (by decide) ?_
        obtain ⟨hz9, hF⟩ := chk_some hF
        obtain rfl := Option.some.inj hF
        exact W.zret (v := (0 : Int32)) (ty := .boolean) hx hb hr (nar_z hz9).1 (fun t ht hW => ⟨⟨_, (), rfl, rfl, ⟨by rw [ht]; exact hP, va_K.moved hW.alike hK, hD⟩⟩, hS.F ht⟩) hS.2.2 dX8_cutByTables_41
      · rw [if_neg c8] at hF
        refine lv_aload_n hx hb dX8_cutByTables_29 rfl (lv_at hl 0 rfl) ?_
        refine va_get (D := D) (ci := 8) (v := va_re ad (M.2 a 12)) (C := RX8) (T := TX8) (N := 15) hx hb hts (mus hf_X8) hown hK hP a (wld_o ct ad G M hc hk (by decide)) rfl 12 (by decide) (hts (.fieldLink RX8 35 "VideoSuite$Units" "table" "[I") (mu mw_231)) (fun _ h9 => h9) rfl dX8_cutByTables_30 ?_
        refine lv_iconst (v := (3 : Int32)) hx hb dX8_cutByTables_33 (by decide) ?_
        refine W_st (st' := [.int (3 : Int32), .ref (ad b2)]) (by rw [va_some ho2]) ?_
        obtain ⟨hvc, hF⟩ := chk_some hF
        refine va_iald hx hb hK hP b2 1 (wld_i ct ad G M hc2 hk2) rfl hvc dX8_cutByTables_34 ?_
        obtain ⟨x9, ex9, hF⟩ := ltt_some hF
        refine lv_topi (fun zx9 ezx9 => ?_)
        obtain rfl : x9 = zx9 := ex9.trans ezx9.symm
        refine lv_bipush (v := (12 : Int32)) hx hb dX8_cutByTables_35 (by decide) ?_
        refine lv_icmp_ge (tgt := 42) hx hb dX8_cutByTables_37 (by decide) (fun c10 => ?_) (fun c10 => ?_)
        · rw [if_pos c10] at hF
          refine lv_aloadq_n hx hb dX8_cutByTables_42 rfl (lv_at hl 1 rfl) ?_
          refine lv_aload_n hx hb dX8_cutByTables_43 rfl (lv_at hl 0 rfl) ?_
          refine va_get (D := D) (ci := 8) (v := va_re ad (M.2 a 12)) (C := RX8) (T := TX8) (N := 15) hx hb hts (mus hf_X8) hown hK hP a (wld_o ct ad G M hc hk (by decide)) rfl 12 (by decide) (hts (.fieldLink RX8 35 "VideoSuite$Units" "table" "[I") (mu mw_231)) (fun _ h9 => h9) rfl dX8_cutByTables_44 ?_
          refine lv_iconst (v := (0 : Int32)) hx hb dX8_cutByTables_47 (by decide) ?_
          refine W_st (st' := [.int (0 : Int32), .ref (ad b2), va_re ad p0]) (by rw [va_some ho2]) ?_
          obtain ⟨hvc, hF⟩ := chk_some hF
          refine va_iald hx hb hK hP b2 1 (wld_i ct ad G M hc2 hk2) rfl hvc dX8_cutByTables_48 ?_
          obtain ⟨x11, ex11, hF⟩ := ltt_some hF
          refine lv_topi (fun zx11 ezx11 => ?_)
          obtain rfl : x11 = zx11 := ex11.trans ezx11.symm
          refine lv_bipush (v := (8 : Int32)) hx hb dX8_cutByTables_49 (by decide) ?_
          refine lv_iadd hx hb dX8_cutByTables_51 ?_
          obtain ⟨x12, ex12, hF⟩ := ltt_some hF
          refine lv_topi (fun zx12 ezx12 => ?_)
          obtain rfl : x12 = zx12 := ex12.trans ezx12.symm
          obtain ⟨y13, hy13, hF⟩ := bnd_some hF
          have hf9 := wA_in hD hA9 hS
          refine va_calll (va_runS (As := [va_re ad p0, .int x12]) (rest := []) ⟨hx, hb, hml, hown, hts⟩ (kX8_number4 l D ct ad Z G M s.heap.size p0 x12 y13 hy13) (va_cwS 2 hts gX8_cutByTables_X8_number4 rfl rfl rfl (by decide +kernel) ⟨Nat.le_of_ble_eq_true rfl, Nat.le_of_ble_eq_true rfl⟩) ⟨fun a U g mk q => by obtain ⟨q0, q1, qP, qK, qD, qZ, qN⟩ := q; exact ⟨q0, q1, qP, va_K.moved (u := U) (U := U.calling g mk a) (Vm.Alike.refl U.vm) qK, qD, sF.moved (u := U) (U := U.calling g mk a) (Vm.Alike.refl U.vm) qZ, nF.same rfl qN⟩, fun U hU hW => ⟨rfl, by rw [hU], by rw [hU]; exact hP, va_K.moved hW.alike hK, hD.weaken (fun _ _ _ _ => trivial), by rw [hU]; exact ((hZ.kept hS.2.1).narrow hf9).moved hW.alike, hN.warm hW⟩⟩ rfl rfl hl.1 rfl (lv_room (Nat.le_of_ble_eq_true rfl)) dX8_cutByTables_52 ⟨(Nat.zero_le _), (Nat.zero_le _)⟩) hS (fun q _ h => hf9 q h) hf9 (fun r u t H locs ht hvm hw hB hz1 hk1 hS => ?_)
          obtain ⟨hP, hK9, hD9⟩ := hB
          rw [ht] at hP
          try dsimp only at hw
          subst hw
          have hD := hD9.weaken (fun _ q _ h => hf9 q.1 h)
          refine lv_lstore_n (lv' := [(3, .long y13.2), (0, .ref (ad a)), (1, va_re ad p0), (2, .int p1)]) hx hb dX8_cutByTables_55 rfl hl (by decide) rfl (fun ls hl => ?_)
          refine lv_ldc2 (v := (12 : Int64)) hx hb hown (hts (.constantLong RX8 114 (12 : Int64)) (mu mw_2840)) dX8_cutByTables_56 ?_
          refine lv_ldc2 (v := (4 : Int64)) hx hb hown (hts (.constantLong RX8 116 (4 : Int64)) (mu mw_2841)) dX8_cutByTables_59 ?_
          refine lv_lload_n hx hb dX8_cutByTables_62 rfl (lv_at hl 0 rfl) ?_
          refine lv_lmul hx hb dX8_cutByTables_63 ?_
          obtain ⟨x14, ex14, hF⟩ := ltt_some hF
          refine lv_topl (fun zx14 ezx14 => ?_)
          obtain rfl : x14 = zx14 := ex14.trans ezx14.symm
          refine lv_ladd hx hb dX8_cutByTables_64 ?_
          obtain ⟨x15, ex15, hF⟩ := ltt_some hF
          refine lv_topl (fun zx15 ezx15 => ?_)
          obtain rfl : x15 = zx15 := ex15.trans ezx15.symm
          refine lv_aload_n hx hb dX8_cutByTables_65 rfl (lv_at hl 1 rfl) ?_
          refine va_get (D := D) (ci := 8) (v := va_re ad (y13.1.2 a 12)) (C := RX8) (T := TX8) (N := 15) hx hb hts (mus hf_X8) hown hK hP a (wld_o ct ad G y13.1 hc hk (by decide)) rfl 12 (by decide) (hts (.fieldLink RX8 35 "VideoSuite$Units" "table" "[I") (mu mw_231)) (fun _ h9 => h9) rfl dX8_cutByTables_66 ?_
          refine lv_iconst (v := (1 : Int32)) hx hb dX8_cutByTables_69 (by decide) ?_
          obtain ⟨b16, ho16, hc16, hk16, hF⟩ := dr_some hF
          refine W_st (st' := [.int (1 : Int32), .ref (ad b16), .long x15]) (by rw [va_some ho16]) ?_
          obtain ⟨hvc, hF⟩ := chk_some hF
          refine va_iald hx hb hK hP b16 1 (wld_i ct ad G y13.1 hc16 hk16) rfl hvc dX8_cutByTables_70 ?_
          obtain ⟨x17, ex17, hF⟩ := ltt_some hF
          refine lv_topi (fun zx17 ezx17 => ?_)
          obtain rfl : x17 = zx17 := ex17.trans ezx17.symm
          refine lv_i2l (v := x17.toInt64) hx hb dX8_cutByTables_71 rfl ?_
          obtain ⟨x18, ex18, hF⟩ := ltt_some hF
          refine lv_topl (fun zx18 ezx18 => ?_)
          obtain rfl : x18 = zx18 := ex18.trans ezx18.symm
          refine W.lcmp hx hb dX8_cutByTables_72 ?_
          obtain ⟨x19, ex19, hF⟩ := ltt_some hF
          refine lv_topi (fun zx19 ezx19 => ?_)
          obtain rfl : x19 = zx19 := ex19.trans ezx19.symm
          refine lv_if_le (tgt := 78) hx hb dX8_cutByTables_73 (by decide) (fun c20 => ?_) (fun c20 => ?_)
          · rw [if_pos c20] at hF
            refine lv_aloadq_n hx hb dX8_cutByTables_78 rfl (lv_at hl 2 rfl) ?_
            refine lv_aload_n hx hb dX8_cutByTables_79 rfl (lv_at hl 1 rfl) ?_
            refine va_get (D := D) (ci := 8) (v := va_re ad (y13.1.2 a 12)) (C := RX8) (T := TX8) (N := 15) hx hb hts (mus hf_X8) hown hK hP a (wld_o ct ad G y13.1 hc hk (by decide)) rfl 12 (by decide) (hts (.fieldLink RX8 35 "VideoSuite$Units" "table" "[I") (mu mw_231)) (fun _ h9 => h9) rfl dX8_cutByTables_80 ?_
            refine lv_iconst (v := (2 : Int32)) hx hb dX8_cutByTables_83 (by decide) ?_
            refine W_st (st' := [.int (2 : Int32), .ref (ad b16), va_re ad p0]) (by rw [va_some ho16]) ?_
            obtain ⟨hvc, hF⟩ := chk_some hF
            refine va_iald hx hb hK hP b16 1 (wld_i ct ad G y13.1 hc16 hk16) rfl hvc dX8_cutByTables_84 ?_
            obtain ⟨x21, ex21, hF⟩ := ltt_some hF
            refine lv_topi (fun zx21 ezx21 => ?_)
            obtain rfl : x21 = zx21 := ex21.trans ezx21.symm
            refine lv_bipush (v := (8 : Int32)) hx hb dX8_cutByTables_85 (by decide) ?_
            refine lv_iadd hx hb dX8_cutByTables_87 ?_
            obtain ⟨x22, ex22, hF⟩ := ltt_some hF
            refine lv_topi (fun zx22 ezx22 => ?_)
            obtain rfl : x22 = zx22 := ex22.trans ezx22.symm
            obtain ⟨y23, hy23, hF⟩ := bnd_some hF
            have hf9 := wA_in hD hA9 hS
            refine va_calll (va_runS (As := [va_re ad p0, .int x22]) (rest := []) ⟨hx, hb, hml, hown, hts⟩ (kX8_number4 l D ct ad Z G y13.1 H.size p0 x22 y23 hy23) (va_cwS 2 hts gX8_cutByTables_X8_number4 rfl rfl rfl (by decide +kernel) ⟨Nat.le_of_ble_eq_true rfl, Nat.le_of_ble_eq_true rfl⟩) ⟨fun a U g mk q => by obtain ⟨q0, q1, qP, qK, qD, qZ, qN⟩ := q; exact ⟨q0, q1, qP, va_K.moved (u := U) (U := U.calling g mk a) (Vm.Alike.refl U.vm) qK, qD, sF.moved (u := U) (U := U.calling g mk a) (Vm.Alike.refl U.vm) qZ, nF.same rfl qN⟩, fun U hU hW => ⟨rfl, by rw [hU], by rw [hU]; exact hP, va_K.moved hW.alike hK, hD.weaken (fun _ _ _ _ => trivial), by rw [hU]; exact ((hZ.kept hS.2.1).narrow hf9).moved hW.alike, hN.warm hW⟩⟩ rfl rfl hl.1 rfl (lv_room (Nat.le_of_ble_eq_true rfl)) dX8_cutByTables_88 ⟨(Nat.zero_le _), (Nat.zero_le _)⟩) hS (fun q _ h => hf9 q h) hf9 (fun r u t H locs ht hvm hw hB hz1 hk1 hS => ?_)
            obtain ⟨hP, hK9, hD9⟩ := hB
            rw [ht] at hP
            try dsimp only at hw
            subst hw
            have hD := hD9.weaken (fun _ q _ h => hf9 q.1 h)
            refine lv_lstore (lv' := [(5, .long y23.2), (3, .long y13.2), (0, .ref (ad a)), (1, va_re ad p0), (2, .int p1)]) hx hb dX8_cutByTables_91 hl (by decide) rfl (fun ls hl => ?_)
            refine lv_iconst (v := (0 : Int32)) hx hb dX8_cutByTables_93 (by decide) ?_
            refine lv_istore (lv' := [(7, .int (0 : Int32)), (5, .long y23.2), (3, .long y13.2), (0, .ref (ad a)), (1, va_re ad p0), (2, .int p1)]) hx hb dX8_cutByTables_94 hl (by decide) rfl (fun ls hl => ?_)
            obtain ⟨y24, hy24, hF⟩ := bnd_some hF
            have K24 : ∀ z24k : Int64 × Int32 × DD, y24 = .inl z24k → ∀ (H : Heap) (locs : List Loc) (ls : Array Slot), va_P D classes (wld ct ad G z24k.2.2) H → va_D A (wld ct ad G z24k.2.2) → va_S A s.heap H locs → lv_has ls 10 [(7, .int z24k.2.1), (5, .long z24k.1), (3, .long y13.2), (0, .ref (ad a)), (1, va_re ad p0), (2, .int p1)] → W p l e (headSpec wuX8_cutByTables ({ frames := 2, cells := 0, slots := 0, locals := 50 })).room s m ([.ref (ad a), va_re ad p0, .int p1] : List Value).toArray below meth c H locs 0 0 (MQ below (va_Qi (fun (q : Int32) (_ : Unit) => q = y.2) (fun _ t => kE D ct ad G A y.1 t) A) ([.ref (ad a), va_re ad p0, .int p1] : List Value).toArray s 0 0 A) (F0 m 168 ls []) := by
              intro z24k hz24 H locs ls hP hD hS hl
              have hF := sel_inl (hz24 ▸ hF)
              refine lv_iconst (v := (1 : Int32)) hx hb dX8_cutByTables_168 (by decide) ?_
              obtain ⟨hz9, hF⟩ := chk_some hF
              obtain rfl := Option.some.inj hF
              exact W.zret (v := (1 : Int32)) (ty := .boolean) hx hb hr (nar_z hz9).1 (fun t ht hW => ⟨⟨_, (), rfl, rfl, ⟨by rw [ht]; exact hP, va_K.moved hW.alike hK, hD⟩⟩, hS.F ht⟩) hS.2.2 dX8_cutByTables_169
            have hR24 := hF
            clear hF
            refine itr_rule (fun (s25 : Int64 × Int32 × DD) => ∀ (H : Heap) (locs : List Loc) (ls : Array Slot), va_P D classes (wld ct ad G s25.2.2) H → va_D A (wld ct ad G s25.2.2) → va_S A s.heap H locs → lv_has ls 10 [(7, .int s25.2.1), (5, .long s25.1), (3, .long y13.2), (0, .ref (ad a)), (1, va_re ad p0), (2, .int p1)] → W p l e (headSpec wuX8_cutByTables ({ frames := 2, cells := 0, slots := 0, locals := 50 })).room s m ([.ref (ad a), va_re ad p0, .int p1] : List Value).toArray below meth c H locs 0 0 (MQ below (va_Qi (fun (q : Int32) (_ : Unit) => q = y.2) (fun _ t => kE D ct ad G A y.1 t) A) ([.ref (ad a), va_re ad p0, .int p1] : List Value).toArray s 0 0 A) (F0 m 96 ls [])) ?_ _ _ hy24 _ _ _ hP hD hS (lv_sub hl [0, 1, 2, 3, 4, 5] rfl)
            rintro s25 ⟨z27, hF, hwz27⟩ H locs ls hP hD hS hl
            try dsimp only at hF
            refine lv_iload hx hb dX8_cutByTables_96 (lv_at hl 0 rfl) ?_
            refine lv_i2l (v := s25.2.1.toInt64) hx hb dX8_cutByTables_98 rfl ?_
            obtain ⟨x28, ex28, hF⟩ := ltt_some hF
            refine lv_topl (fun zx28 ezx28 => ?_)
            obtain rfl : x28 = zx28 := ex28.trans ezx28.symm
            refine lv_lload_n hx hb dX8_cutByTables_99 rfl (lv_at hl 2 rfl) ?_
            refine W.lcmp hx hb dX8_cutByTables_100 ?_
            obtain ⟨x29, ex29, hF⟩ := ltt_some hF
            refine lv_topi (fun zx29 ezx29 => ?_)
            obtain rfl : x29 = zx29 := ex29.trans ezx29.symm
            refine lv_if_ge (tgt := 168) hx hb dX8_cutByTables_101 (by decide) (fun c30 => ?_) (fun c30 => ?_)
            · rw [if_pos c30] at hF
              obtain rfl := Option.some.inj hF
              exact K24 _ hwz27.symm _ _ _ hP hD hS (lv_sub hl [0, 1, 2, 3, 4, 5] rfl)
            · rw [if_neg c30] at hF
              refine lv_aloadq_n hx hb dX8_cutByTables_104 rfl (lv_at hl 4 rfl) ?_
              refine lv_aload_n hx hb dX8_cutByTables_105 rfl (lv_at hl 3 rfl) ?_
              refine va_get (D := D) (ci := 8) (v := va_re ad (s25.2.2.2 a 12)) (C := RX8) (T := TX8) (N := 15) hx hb hts (mus hf_X8) hown hK hP a (wld_o ct ad G s25.2.2 hc hk (by decide)) rfl 12 (by decide) (hts (.fieldLink RX8 35 "VideoSuite$Units" "table" "[I") (mu mw_231)) (fun _ h9 => h9) rfl dX8_cutByTables_106 ?_
              refine lv_iconst (v := (0 : Int32)) hx hb dX8_cutByTables_109 (by decide) ?_
              obtain ⟨b31, ho31, hc31, hk31, hF⟩ := dr_some hF
              refine W_st (st' := [.int (0 : Int32), .ref (ad b31), va_re ad p0]) (by rw [va_some ho31]) ?_
              obtain ⟨hvc, hF⟩ := chk_some hF
              refine va_iald hx hb hK hP b31 1 (wld_i ct ad G s25.2.2 hc31 hk31) rfl hvc dX8_cutByTables_110 ?_
              obtain ⟨x32, ex32, hF⟩ := ltt_some hF
              refine lv_topi (fun zx32 ezx32 => ?_)
              obtain rfl : x32 = zx32 := ex32.trans ezx32.symm
              refine lv_bipush (v := (12 : Int32)) hx hb dX8_cutByTables_111 (by decide) ?_
              refine lv_iadd hx hb dX8_cutByTables_113 ?_
              obtain ⟨x33, ex33, hF⟩ := ltt_some hF
              refine lv_topi (fun zx33 ezx33 => ?_)
              obtain rfl : x33 = zx33 := ex33.trans ezx33.symm
              refine lv_iconst (v := (4 : Int32)) hx hb dX8_cutByTables_114 (by decide) ?_
              refine lv_iload hx hb dX8_cutByTables_115 (lv_at hl 0 rfl) ?_
              refine lv_imul hx hb dX8_cutByTables_117 ?_
              obtain ⟨x34, ex34, hF⟩ := ltt_some hF
              refine lv_topi (fun zx34 ezx34 => ?_)
              obtain rfl : x34 = zx34 := ex34.trans ezx34.symm
              refine lv_iadd hx hb dX8_cutByTables_118 ?_
              obtain ⟨x35, ex35, hF⟩ := ltt_some hF
              refine lv_topi (fun zx35 ezx35 => ?_)
              obtain rfl : x35 = zx35 := ex35.trans ezx35.symm
              obtain ⟨y36, hy36, hF⟩ := bnd_some hF
              have hf9 := wA_in hD hA9 hS
              refine va_calll (va_runS (As := [va_re ad p0, .int x35]) (rest := []) ⟨hx, hb, hml, hown, hts⟩ (kX8_number4 l D ct ad Z G s25.2.2 H.size p0 x35 y36 hy36) (va_cwS 2 hts gX8_cutByTables_X8_number4 rfl rfl rfl (by decide +kernel) ⟨Nat.le_of_ble_eq_true rfl, Nat.le_of_ble_eq_true rfl⟩) ⟨fun a U g mk q => by obtain ⟨q0, q1, qP, qK, qD, qZ, qN⟩ := q; exact ⟨q0, q1, qP, va_K.moved (u := U) (U := U.calling g mk a) (Vm.Alike.refl U.vm) qK, qD, sF.moved (u := U) (U := U.calling g mk a) (Vm.Alike.refl U.vm) qZ, nF.same rfl qN⟩, fun U hU hW => ⟨rfl, by rw [hU], by rw [hU]; exact hP, va_K.moved hW.alike hK, hD.weaken (fun _ _ _ _ => trivial), by rw [hU]; exact ((hZ.kept hS.2.1).narrow hf9).moved hW.alike, hN.warm hW⟩⟩ rfl rfl hl.1 rfl (lv_room (Nat.le_of_ble_eq_true rfl)) dX8_cutByTables_119 ⟨(Nat.zero_le _), (Nat.zero_le _)⟩) hS (fun q _ h => hf9 q h) hf9 (fun r u t H locs ht hvm hw hB hz1 hk1 hS => ?_)
              obtain ⟨hP, hK9, hD9⟩ := hB
              rw [ht] at hP
              try dsimp only at hw
              subst hw
              have hD := hD9.weaken (fun _ q _ h => hf9 q.1 h)
              refine lv_lstore (lv' := [(8, .long y36.2), (7, .int s25.2.1), (5, .long s25.1), (3, .long y13.2), (0, .ref (ad a)), (1, va_re ad p0), (2, .int p1)]) hx hb dX8_cutByTables_122 hl (by decide) rfl (fun ls hl => ?_)
              refine lv_lload hx hb dX8_cutByTables_124 (lv_at hl 2 rfl) ?_
              refine lv_lload hx hb dX8_cutByTables_126 (lv_at hl 0 rfl) ?_
              refine lv_ladd hx hb dX8_cutByTables_128 ?_
              obtain ⟨x37, ex37, hF⟩ := ltt_some hF
              refine lv_topl (fun zx37 ezx37 => ?_)
              obtain rfl : x37 = zx37 := ex37.trans ezx37.symm
              refine lv_iload_n hx hb dX8_cutByTables_129 rfl (lv_at hl 6 rfl) ?_
              refine lv_i2l (v := p1.toInt64) hx hb dX8_cutByTables_130 rfl ?_
              obtain ⟨x38, ex38, hF⟩ := ltt_some hF
              refine lv_topl (fun zx38 ezx38 => ?_)
              obtain rfl : x38 = zx38 := ex38.trans ezx38.symm
              refine W.lcmp hx hb dX8_cutByTables_131 ?_
              obtain ⟨x39, ex39, hF⟩ := ltt_some hF
              refine lv_topi (fun zx39 ezx39 => ?_)
              obtain rfl : x39 = zx39 := ex39.trans ezx39.symm
              refine lv_if_gt (tgt := 153) hx hb dX8_cutByTables_132 (by decide) (fun c40 => ?_) (fun c40 => ?_)
              · rw [if_pos c40] at hF
                refine lv_iconst (v := (0 : Int32)) hx hb dX8_cutByTables_153 (by decide) ?_
                obtain ⟨hz9, hF⟩ := chk_some hF
                obtain rfl := Option.some.inj hF
                have hF := sel_inr (hwz27 ▸ hR24)
                obtain rfl := Option.some.inj hF
                exact W.zret (v := (0 : Int32)) (ty := .boolean) hx hb hr (nar_z hz9).1 (fun t ht hW => ⟨⟨_, (), rfl, rfl, ⟨by rw [ht]; exact hP, va_K.moved hW.alike hK, hD⟩⟩, hS.F ht⟩) hS.2.2 dX8_cutByTables_154
              · rw [if_neg c40] at hF
                refine lv_aload_n hx hb dX8_cutByTables_135 rfl (lv_at hl 4 rfl) ?_
                refine lv_aloadq_n hx hb dX8_cutByTables_136 rfl (lv_at hl 5 rfl) ?_
                refine lv_lload hx hb dX8_cutByTables_137 (lv_at hl 2 rfl) ?_
                refine lv_l2i (v := s25.1.toInt32) hx hb dX8_cutByTables_139 rfl ?_
                obtain ⟨x41, ex41, hF⟩ := ltt_some hF
                refine lv_topi (fun zx41 ezx41 => ?_)
                obtain rfl : x41 = zx41 := ex41.trans ezx41.symm
                refine lv_lload hx hb dX8_cutByTables_140 (lv_at hl 2 rfl) ?_
                refine lv_lload hx hb dX8_cutByTables_142 (lv_at hl 0 rfl) ?_
                refine lv_ladd hx hb dX8_cutByTables_144 ?_
                obtain ⟨x42, ex42, hF⟩ := ltt_some hF
                refine lv_topl (fun zx42 ezx42 => ?_)
                obtain rfl : x42 = zx42 := ex42.trans ezx42.symm
                refine lv_l2i (v := x42.toInt32) hx hb dX8_cutByTables_145 rfl ?_
                obtain ⟨x43, ex43, hF⟩ := ltt_some hF
                refine lv_topi (fun zx43 ezx43 => ?_)
                obtain rfl : x43 = zx43 := ex43.trans ezx43.symm
                refine lv_iconst (v := (4 : Int32)) hx hb dX8_cutByTables_146 (by decide) ?_
                obtain ⟨y44, hy44, hF⟩ := bnd_some hF
                have hf9 := wA_in hD hA9 hS
                refine va_calli (va_runV (As := [va_re ad p0, .int x41, .int x43, .int (4 : Int32)]) (rest := []) ⟨hx, hb, hml, hown, hts⟩ (kX8_cutByLengths l D ct ad Z G y36.1 H.size a p0 x41 x43 ((4 : Int32)) y44 hc hk hy44) (cwV 4 hts gX8_cutByTables_X8_cutByLengths rfl rfl rfl (by decide +kernel) ⟨Nat.le_of_ble_eq_true rfl, Nat.le_of_ble_eq_true rfl⟩) ⟨fun a U g mk q => by obtain ⟨q0, q1, qP, qK, qD, qZ, qN⟩ := q; exact ⟨q0, q1, qP, va_K.moved (u := U) (U := U.calling g mk a) (Vm.Alike.refl U.vm) qK, qD, sF.moved (u := U) (U := U.calling g mk a) (Vm.Alike.refl U.vm) qZ, nF.same rfl qN⟩, va_recv hK hP (ci := 8) (q0 := a) rfl (wld_o ct ad G y36.1 hc hk (by decide)), fun U hU hW => ⟨rfl, by rw [hU], by rw [hU]; exact hP, va_K.moved hW.alike hK, hD.weaken (fun _ _ _ _ => trivial), by rw [hU]; exact ((hZ.kept hS.2.1).narrow hf9).moved hW.alike, hN.warm hW⟩⟩ rfl rfl hl.1 rfl (lv_room (Nat.le_of_ble_eq_true rfl)) dX8_cutByTables_147 ⟨(Nat.zero_le _), (Nat.zero_le _)⟩) hS (fun q _ h => hf9 q h) hf9 (fun r u t H locs ht hvm hw hB hz1 hk1 hS => ?_)
                obtain ⟨hP, hK9, hD9⟩ := hB
                rw [ht] at hP
                try dsimp only at hw
                subst hw
                have hD := hD9.weaken (fun _ q _ h => hf9 q.1 h)
                refine lv_if_ne (tgt := 155) hx hb dX8_cutByTables_150 (by decide) (fun c45 => ?_) (fun c45 => ?_)
                · rw [if_neg c45] at hF
                  refine lv_lload hx hb dX8_cutByTables_155 (lv_at hl 2 rfl) ?_
                  refine lv_lload hx hb dX8_cutByTables_157 (lv_at hl 0 rfl) ?_
                  refine lv_ladd hx hb dX8_cutByTables_159 ?_
                  obtain ⟨x46, ex46, hF⟩ := ltt_some hF
                  refine lv_topl (fun zx46 ezx46 => ?_)
                  obtain rfl : x46 = zx46 := ex46.trans ezx46.symm
                  refine lv_lstore (lv' := [(5, .long x46), (8, .long y36.2), (7, .int s25.2.1), (3, .long y13.2), (0, .ref (ad a)), (1, va_re ad p0), (2, .int p1)]) hx hb dX8_cutByTables_160 hl (by decide) rfl (fun ls hl => ?_)
                  obtain ⟨x47, ex47, hF⟩ := ltt_some hF
                  refine lv_iinc (v := x47) (lv' := [(7, .int x47), (5, .long x46), (8, .long y36.2), (3, .long y13.2), (0, .ref (ad a)), (1, va_re ad p0), (2, .int p1)]) hx hb dX8_cutByTables_162 hl (k := 2) rfl (by rw [ex47]; rfl) (by decide) rfl (fun ls hl => ?_)
                  refine lv_goto (tgt := 96) hx hb dX8_cutByTables_165 (by decide) ?_
                  obtain rfl := Option.some.inj hF
                  exact hwz27 _ _ _ hP hD hS (lv_sub hl [0, 1, 3, 4, 5, 6] rfl)
                · rw [if_pos c45] at hF
                  refine lv_iconst (v := (0 : Int32)) hx hb dX8_cutByTables_153 (by decide) ?_
                  obtain ⟨hz9, hF⟩ := chk_some hF
                  obtain rfl := Option.some.inj hF
                  have hF := sel_inr (hwz27 ▸ hR24)
                  obtain rfl := Option.some.inj hF
                  exact W.zret (v := (0 : Int32)) (ty := .boolean) hx hb hr (nar_z hz9).1 (fun t ht hW => ⟨⟨_, (), rfl, rfl, ⟨by rw [ht]; exact hP, va_K.moved hW.alike hK, hD⟩⟩, hS.F ht⟩) hS.2.2 dX8_cutByTables_154
          · rw [if_neg c20] at hF
            refine lv_iconst (v := (0 : Int32)) hx hb dX8_cutByTables_76 (by decide) ?_
            obtain ⟨hz9, hF⟩ := chk_some hF
            obtain rfl := Option.some.inj hF
            exact W.zret (v := (0 : Int32)) (ty := .boolean) hx hb hr (nar_z hz9).1 (fun t ht hW => ⟨⟨_, (), rfl, rfl, ⟨by rw [ht]; exact hP, va_K.moved hW.alike hK, hD⟩⟩, hS.F ht⟩) hS.2.2 dX8_cutByTables_77
        · rw [if_neg c10] at hF
          refine lv_iconst (v := (0 : Int32)) hx hb dX8_cutByTables_40 (by decide) ?_
          obtain ⟨hz9, hF⟩ := chk_some hF
          obtain rfl := Option.some.inj hF
          exact W.zret (v := (0 : Int32)) (ty := .boolean) hx hb hr (nar_z hz9).1 (fun t ht hW => ⟨⟨_, (), rfl, rfl, ⟨by rw [ht]; exact hP, va_K.moved hW.alike hK, hD⟩⟩, hS.F ht⟩) hS.2.2 dX8_cutByTables_41
set_option maxRecDepth 20000 in
theorem gX8_fileLength_X8_trackLength : GoodIn wuX8_fileLength (wsV RX8 68 RX8 yX8_trackLength wuX8_trackLength) := gu_V mw_2786 mw_2788 mw_160 mw_167 mw_2789
set_option maxRecDepth 20000 in
set_option maxRecDepth 20000 in
theorem gX8_fileLength_X8_contentLength : GoodIn wuX8_fileLength (wsV RX8 72 RX8 yX8_contentLength wuX8_contentLength) := gu_V mw_2790 mw_2792 mw_161 mw_167 mw_2793
theorem dX8_fileLength_0 : decode cX8_fileLength 0 = .ok (.sipush 140, 3) := by decide +kernel
theorem dX8_fileLength_3 : decode cX8_fileLength 3 = .ok (.aload_n 0, 1) := by decide +kernel
theorem dX8_fileLength_4 : decode cX8_fileLength 4 = .ok (.invokevirtual 68, 3) := by decide +kernel
theorem dX8_fileLength_7 : decode cX8_fileLength 7 = .ok (.iadd, 1) := by decide +kernel
theorem dX8_fileLength_8 : decode cX8_fileLength 8 = .ok (.bipush 8, 2) := by decide +kernel
theorem dX8_fileLength_10 : decode cX8_fileLength 10 = .ok (.iadd, 1) := by decide +kernel
theorem dX8_fileLength_11 : decode cX8_fileLength 11 = .ok (.aload_n 0, 1) := by decide +kernel
theorem dX8_fileLength_12 : decode cX8_fileLength 12 = .ok (.invokevirtual 72, 3) := by decide +kernel
theorem dX8_fileLength_15 : decode cX8_fileLength 15 = .ok (.iadd, 1) := by decide +kernel
theorem dX8_fileLength_16 : decode cX8_fileLength 16 = .ok (.ireturn, 1) := by decide +kernel
def FX8_fileLength (G : GG) (M : DD) (a : Nat)  : Option (DD × Int32) :=
  bnd (FX8_trackLength G M a) fun y1 =>
  ltt ((((140 : Int32)) + y1.2)) fun x2 =>
  ltt ((x2 + ((8 : Int32)))) fun x3 =>
  bnd (FX8_contentLength G y1.1 a) fun y4 =>
  ltt ((x3 + y4.2)) fun x5 =>
  some (y4.1, x5)
set_option maxHeartbeats 4000000 in
set_option maxRecDepth 100000 in
theorem kX8_fileLength (l : Launch) (D : va_G) (ct : CT) (ad : Nat → Nat) (Z : Nat → Nat) (G : GG) (M : DD) (sz : Nat) (a : Nat)  (y : DD × Int32) (hc : a < G.1) (hk : G.2.1 a = 8) (hF : FX8_fileLength G M a  = some y) : Met l yX8_fileLength wuX8_fileLength ({ frames := 1, cells := 0, slots := 0, locals := 22 }) (va_Pc [.ref (ad a)] (kB D ct ad Z G M sz)) (va_Qi (fun (q : Int32) (_ : Unit) => q = y.2) (fun _ t => kE D ct ad G (wA ad G sz) y.1 t) (wA ad G sz)) 0 0 (wA ad G sz) := by
  refine Met.ofW (cc := cX8_fileLength) (maxL := 1) (ret := (some .int)) (by decide) rfl ?_
  intro p e s m args below meth c s₁ B hml hv
  obtain ⟨rfl, hsz, hP, hK, hD0, hZ, hN⟩ := hv
  have hx := B.exec
  have hb := B.bytes
  have hr := B.returns
  have hts := atoms_spec (ws := wuX8_fileLength) B.pre
  have hown : s.vm.findClass RX8 = some m.cls := findClass_of_methodNamed B.named
  have hlocks := B.notSynchronized
  subst hsz
  have hD := wD_self (sz := s.heap.size) hD0
  have hA9 : ∀ q, s.heap.size ≤ q → wA ad G s.heap.size q := fun q h => Or.inr h
  generalize hAe : wA ad G s.heap.size = A at hD hA9 hZ ⊢
  have hS : va_S A s.heap s.heap [] := va_S.rf
  have hl := lv_entry ([.ref (ad a)]) (n := 1) (Nat.le_of_ble_eq_true rfl)
  rw [lg_entry_eq]
  generalize (lg_sl ([.ref (ad a)]) ++ List.replicate (1 - (lg_sl ([.ref (ad a)])).length) Slot.unset).toArray = ls at hl ⊢
  have hl : lv_has ls 1 [(0, .ref (ad a))] := hl
  unfold FX8_fileLength at hF
  refine lv_sipush (v := (140 : Int32)) hx hb dX8_fileLength_0 (by decide) ?_
  refine lv_aload_n hx hb dX8_fileLength_3 rfl (lv_at hl 0 rfl) ?_
  obtain ⟨y1, hy1, hF⟩ := bnd_some hF
  have hf9 := wA_in hD hA9 hS
  refine va_calli (va_runV (As := []) (rest := [.int (140 : Int32)]) ⟨hx, hb, hml, hown, hts⟩ (kX8_trackLength l D ct ad Z G M s.heap.size a y1 hc hk hy1) (cwV 0 hts gX8_fileLength_X8_trackLength rfl rfl rfl (by decide +kernel) ⟨Nat.le_of_ble_eq_true rfl, Nat.le_of_ble_eq_true rfl⟩) ⟨fun a U g mk q => by obtain ⟨q0, q1, qP, qK, qD, qZ, qN⟩ := q; exact ⟨q0, q1, qP, va_K.moved (u := U) (U := U.calling g mk a) (Vm.Alike.refl U.vm) qK, qD, sF.moved (u := U) (U := U.calling g mk a) (Vm.Alike.refl U.vm) qZ, nF.same rfl qN⟩, va_recv hK hP (ci := 8) (q0 := a) rfl (wld_o ct ad G M hc hk (by decide)), fun U hU hW => ⟨rfl, by rw [hU], by rw [hU]; exact hP, va_K.moved hW.alike hK, hD.weaken (fun _ _ _ _ => trivial), by rw [hU]; exact ((hZ.kept hS.2.1).narrow hf9).moved hW.alike, hN.warm hW⟩⟩ rfl rfl hl.1 rfl (lv_room (Nat.le_of_ble_eq_true rfl)) dX8_fileLength_4 ⟨(Nat.zero_le _), (Nat.zero_le _)⟩) hS (fun q _ h => hf9 q h) hf9 (fun r u t H locs ht hvm hw hB hz1 hk1 hS => ?_)
  obtain ⟨hP, hK9, hD9⟩ := hB
  rw [ht] at hP
  try dsimp only at hw
  subst hw
  have hD := hD9.weaken (fun _ q _ h => hf9 q.1 h)
  refine lv_iadd hx hb dX8_fileLength_7 ?_
  obtain ⟨x2, ex2, hF⟩ := ltt_some hF
  refine lv_topi (fun zx2 ezx2 => ?_)
  obtain rfl : x2 = zx2 := ex2.trans ezx2.symm
  refine lv_bipush (v := (8 : Int32)) hx hb dX8_fileLength_8 (by decide) ?_
  refine lv_iadd hx hb dX8_fileLength_10 ?_
  obtain ⟨x3, ex3, hF⟩ := ltt_some hF
  refine lv_topi (fun zx3 ezx3 => ?_)
  obtain rfl : x3 = zx3 := ex3.trans ezx3.symm
  refine lv_aload_n hx hb dX8_fileLength_11 rfl (lv_at hl 0 rfl) ?_
  obtain ⟨y4, hy4, hF⟩ := bnd_some hF
  have hf9 := wA_in hD hA9 hS
  refine va_calli (va_runV (As := []) (rest := [.int x3]) ⟨hx, hb, hml, hown, hts⟩ (kX8_contentLength l D ct ad Z G y1.1 H.size a y4 hc hk hy4) (cwV 0 hts gX8_fileLength_X8_contentLength rfl rfl rfl (by decide +kernel) ⟨Nat.le_of_ble_eq_true rfl, Nat.le_of_ble_eq_true rfl⟩) ⟨fun a U g mk q => by obtain ⟨q0, q1, qP, qK, qD, qZ, qN⟩ := q; exact ⟨q0, q1, qP, va_K.moved (u := U) (U := U.calling g mk a) (Vm.Alike.refl U.vm) qK, qD, sF.moved (u := U) (U := U.calling g mk a) (Vm.Alike.refl U.vm) qZ, nF.same rfl qN⟩, va_recv hK hP (ci := 8) (q0 := a) rfl (wld_o ct ad G y1.1 hc hk (by decide)), fun U hU hW => ⟨rfl, by rw [hU], by rw [hU]; exact hP, va_K.moved hW.alike hK, hD.weaken (fun _ _ _ _ => trivial), by rw [hU]; exact ((hZ.kept hS.2.1).narrow hf9).moved hW.alike, hN.warm hW⟩⟩ rfl rfl hl.1 rfl (lv_room (Nat.le_of_ble_eq_true rfl)) dX8_fileLength_12 ⟨(Nat.zero_le _), (Nat.zero_le _)⟩) hS (fun q _ h => hf9 q h) hf9 (fun r u t H locs ht hvm hw hB hz1 hk1 hS => ?_)
  obtain ⟨hP, hK9, hD9⟩ := hB
  rw [ht] at hP
  try dsimp only at hw
  subst hw
  have hD := hD9.weaken (fun _ q _ h => hf9 q.1 h)
  refine lv_iadd hx hb dX8_fileLength_15 ?_
  obtain ⟨x5, ex5, hF⟩ := ltt_some hF
  refine lv_topi (fun zx5 ezx5 => ?_)
  obtain rfl : x5 = zx5 := ex5.trans ezx5.symm
  obtain rfl := Option.some.inj hF
  exact W.iret (v := x5) hx hb hr (fun t ht hW => ⟨⟨_, (), rfl, rfl, ⟨by rw [ht]; exact hP, va_K.moved hW.alike hK, hD⟩⟩, hS.F ht⟩) hS.2.2 dX8_fileLength_16
set_option maxRecDepth 20000 in
theorem gX8_writeFile_X8_put4 : GoodIn wuX8_writeFile (wsV RX8 78 RX8 yX8_put4 wuX8_put4) := gu_V mw_2799 mw_2801 mw_162 mw_167 mw_2802
set_option maxRecDepth 20000 in
set_option maxRecDepth 20000 in
theorem gX8_writeFile_X8_trackLength : GoodIn wuX8_writeFile (wsV RX8 68 RX8 yX8_trackLength wuX8_trackLength) := gu_V mw_2786 mw_2788 mw_160 mw_167 mw_2789
set_option maxRecDepth 20000 in
set_option maxRecDepth 20000 in
theorem gX8_writeFile_X8_writeTables : GoodIn wuX8_writeFile (wsV RX8 88 RX8 yX8_writeTables wuX8_writeTables) := gu_V mw_2809 mw_2811 mw_163 mw_167 mw_2812
set_option maxRecDepth 20000 in
set_option maxRecDepth 20000 in
theorem gX8_writeFile_X8_contentLength : GoodIn wuX8_writeFile (wsV RX8 72 RX8 yX8_contentLength wuX8_contentLength) := gu_V mw_2790 mw_2792 mw_161 mw_167 mw_2793
theorem dX8_writeFile_0 : decode cX8_writeFile 0 = .ok (.aload_n 0, 1) := by decide +kernel
theorem dX8_writeFile_1 : decode cX8_writeFile 1 = .ok (.iconst 0, 1) := by decide +kernel
theorem dX8_writeFile_2 : decode cX8_writeFile 2 = .ok (.putfield 75, 3) := by decide +kernel
theorem dX8_writeFile_5 : decode cX8_writeFile 5 = .ok (.aload_n 0, 1) := by decide +kernel
theorem dX8_writeFile_6 : decode cX8_writeFile 6 = .ok (.aload_n 1, 1) := by decide +kernel
theorem dX8_writeFile_7 : decode cX8_writeFile 7 = .ok (.bipush 24, 2) := by decide +kernel
theorem dX8_writeFile_9 : decode cX8_writeFile 9 = .ok (.invokevirtual 78, 3) := by decide +kernel
theorem dX8_writeFile_12 : decode cX8_writeFile 12 = .ok (.aload_n 0, 1) := by decide +kernel
theorem dX8_writeFile_13 : decode cX8_writeFile 13 = .ok (.aload_n 1, 1) := by decide +kernel
theorem dX8_writeFile_14 : decode cX8_writeFile 14 = .ok (.ldc 82, 2) := by decide +kernel
theorem dX8_writeFile_16 : decode cX8_writeFile 16 = .ok (.invokevirtual 78, 3) := by decide +kernel
theorem dX8_writeFile_19 : decode cX8_writeFile 19 = .ok (.aload_n 0, 1) := by decide +kernel
theorem dX8_writeFile_20 : decode cX8_writeFile 20 = .ok (.aload_n 1, 1) := by decide +kernel
theorem dX8_writeFile_21 : decode cX8_writeFile 21 = .ok (.ldc 83, 2) := by decide +kernel
theorem dX8_writeFile_23 : decode cX8_writeFile 23 = .ok (.invokevirtual 78, 3) := by decide +kernel
theorem dX8_writeFile_26 : decode cX8_writeFile 26 = .ok (.aload_n 0, 1) := by decide +kernel
theorem dX8_writeFile_27 : decode cX8_writeFile 27 = .ok (.aload_n 1, 1) := by decide +kernel
theorem dX8_writeFile_28 : decode cX8_writeFile 28 = .ok (.sipush 512, 3) := by decide +kernel
theorem dX8_writeFile_31 : decode cX8_writeFile 31 = .ok (.invokevirtual 78, 3) := by decide +kernel
theorem dX8_writeFile_34 : decode cX8_writeFile 34 = .ok (.aload_n 0, 1) := by decide +kernel
theorem dX8_writeFile_35 : decode cX8_writeFile 35 = .ok (.aload_n 1, 1) := by decide +kernel
theorem dX8_writeFile_36 : decode cX8_writeFile 36 = .ok (.ldc 83, 2) := by decide +kernel
theorem dX8_writeFile_38 : decode cX8_writeFile 38 = .ok (.invokevirtual 78, 3) := by decide +kernel
theorem dX8_writeFile_41 : decode cX8_writeFile 41 = .ok (.aload_n 0, 1) := by decide +kernel
theorem dX8_writeFile_42 : decode cX8_writeFile 42 = .ok (.aload_n 1, 1) := by decide +kernel
theorem dX8_writeFile_43 : decode cX8_writeFile 43 = .ok (.ldc 84, 2) := by decide +kernel
theorem dX8_writeFile_45 : decode cX8_writeFile 45 = .ok (.invokevirtual 78, 3) := by decide +kernel
theorem dX8_writeFile_48 : decode cX8_writeFile 48 = .ok (.aload_n 0, 1) := by decide +kernel
theorem dX8_writeFile_49 : decode cX8_writeFile 49 = .ok (.aload_n 1, 1) := by decide +kernel
theorem dX8_writeFile_50 : decode cX8_writeFile 50 = .ok (.bipush 116, 2) := by decide +kernel
theorem dX8_writeFile_52 : decode cX8_writeFile 52 = .ok (.aload_n 0, 1) := by decide +kernel
theorem dX8_writeFile_53 : decode cX8_writeFile 53 = .ok (.invokevirtual 68, 3) := by decide +kernel
theorem dX8_writeFile_56 : decode cX8_writeFile 56 = .ok (.iadd, 1) := by decide +kernel
theorem dX8_writeFile_57 : decode cX8_writeFile 57 = .ok (.invokevirtual 78, 3) := by decide +kernel
theorem dX8_writeFile_60 : decode cX8_writeFile 60 = .ok (.aload_n 0, 1) := by decide +kernel
theorem dX8_writeFile_61 : decode cX8_writeFile 61 = .ok (.aload_n 1, 1) := by decide +kernel
theorem dX8_writeFile_62 : decode cX8_writeFile 62 = .ok (.ldc 85, 2) := by decide +kernel
theorem dX8_writeFile_64 : decode cX8_writeFile 64 = .ok (.invokevirtual 78, 3) := by decide +kernel
theorem dX8_writeFile_67 : decode cX8_writeFile 67 = .ok (.aload_n 0, 1) := by decide +kernel
theorem dX8_writeFile_68 : decode cX8_writeFile 68 = .ok (.aload_n 1, 1) := by decide +kernel
theorem dX8_writeFile_69 : decode cX8_writeFile 69 = .ok (.bipush 108, 2) := by decide +kernel
theorem dX8_writeFile_71 : decode cX8_writeFile 71 = .ok (.invokevirtual 78, 3) := by decide +kernel
theorem dX8_writeFile_74 : decode cX8_writeFile 74 = .ok (.aload_n 0, 1) := by decide +kernel
theorem dX8_writeFile_75 : decode cX8_writeFile 75 = .ok (.aload_n 1, 1) := by decide +kernel
theorem dX8_writeFile_76 : decode cX8_writeFile 76 = .ok (.ldc 86, 2) := by decide +kernel
theorem dX8_writeFile_78 : decode cX8_writeFile 78 = .ok (.invokevirtual 78, 3) := by decide +kernel
theorem dX8_writeFile_81 : decode cX8_writeFile 81 = .ok (.iconst 0, 1) := by decide +kernel
theorem dX8_writeFile_82 : decode cX8_writeFile 82 = .ok (.istore_n 2, 1) := by decide +kernel
theorem dX8_writeFile_83 : decode cX8_writeFile 83 = .ok (.iload_n 2, 1) := by decide +kernel
theorem dX8_writeFile_84 : decode cX8_writeFile 84 = .ok (.bipush 25, 2) := by decide +kernel
theorem dX8_writeFile_86 : decode cX8_writeFile 86 = .ok (.if_icmp .ge 15, 3) := by decide +kernel
theorem dX8_writeFile_89 : decode cX8_writeFile 89 = .ok (.aload_n 0, 1) := by decide +kernel
theorem dX8_writeFile_90 : decode cX8_writeFile 90 = .ok (.aload_n 1, 1) := by decide +kernel
theorem dX8_writeFile_91 : decode cX8_writeFile 91 = .ok (.iconst 0, 1) := by decide +kernel
theorem dX8_writeFile_92 : decode cX8_writeFile 92 = .ok (.invokevirtual 78, 3) := by decide +kernel
theorem dX8_writeFile_95 : decode cX8_writeFile 95 = .ok (.iinc 2 1, 3) := by decide +kernel
theorem dX8_writeFile_98 : decode cX8_writeFile 98 = .ok (.goto (-15), 3) := by decide +kernel
theorem dX8_writeFile_101 : decode cX8_writeFile 101 = .ok (.aload_n 0, 1) := by decide +kernel
theorem dX8_writeFile_102 : decode cX8_writeFile 102 = .ok (.aload_n 1, 1) := by decide +kernel
theorem dX8_writeFile_103 : decode cX8_writeFile 103 = .ok (.aload_n 0, 1) := by decide +kernel
theorem dX8_writeFile_104 : decode cX8_writeFile 104 = .ok (.invokevirtual 68, 3) := by decide +kernel
theorem dX8_writeFile_107 : decode cX8_writeFile 107 = .ok (.invokevirtual 78, 3) := by decide +kernel
theorem dX8_writeFile_110 : decode cX8_writeFile 110 = .ok (.aload_n 0, 1) := by decide +kernel
theorem dX8_writeFile_111 : decode cX8_writeFile 111 = .ok (.aload_n 1, 1) := by decide +kernel
theorem dX8_writeFile_112 : decode cX8_writeFile 112 = .ok (.ldc 87, 2) := by decide +kernel
theorem dX8_writeFile_114 : decode cX8_writeFile 114 = .ok (.invokevirtual 78, 3) := by decide +kernel
theorem dX8_writeFile_117 : decode cX8_writeFile 117 = .ok (.aload_n 0, 1) := by decide +kernel
theorem dX8_writeFile_118 : decode cX8_writeFile 118 = .ok (.aload_n 1, 1) := by decide +kernel
theorem dX8_writeFile_119 : decode cX8_writeFile 119 = .ok (.invokevirtual 88, 3) := by decide +kernel
theorem dX8_writeFile_122 : decode cX8_writeFile 122 = .ok (.aload_n 0, 1) := by decide +kernel
theorem dX8_writeFile_123 : decode cX8_writeFile 123 = .ok (.aload_n 1, 1) := by decide +kernel
theorem dX8_writeFile_124 : decode cX8_writeFile 124 = .ok (.bipush 8, 2) := by decide +kernel
theorem dX8_writeFile_126 : decode cX8_writeFile 126 = .ok (.aload_n 0, 1) := by decide +kernel
theorem dX8_writeFile_127 : decode cX8_writeFile 127 = .ok (.invokevirtual 72, 3) := by decide +kernel
theorem dX8_writeFile_130 : decode cX8_writeFile 130 = .ok (.iadd, 1) := by decide +kernel
theorem dX8_writeFile_131 : decode cX8_writeFile 131 = .ok (.invokevirtual 78, 3) := by decide +kernel
theorem dX8_writeFile_134 : decode cX8_writeFile 134 = .ok (.aload_n 0, 1) := by decide +kernel
theorem dX8_writeFile_135 : decode cX8_writeFile 135 = .ok (.aload_n 1, 1) := by decide +kernel
theorem dX8_writeFile_136 : decode cX8_writeFile 136 = .ok (.ldc 92, 2) := by decide +kernel
theorem dX8_writeFile_138 : decode cX8_writeFile 138 = .ok (.invokevirtual 78, 3) := by decide +kernel
theorem dX8_writeFile_141 : decode cX8_writeFile 141 = .ok (.iconst 0, 1) := by decide +kernel
theorem dX8_writeFile_142 : decode cX8_writeFile 142 = .ok (.istore_n 2, 1) := by decide +kernel
theorem dX8_writeFile_143 : decode cX8_writeFile 143 = .ok (.iload_n 2, 1) := by decide +kernel
theorem dX8_writeFile_144 : decode cX8_writeFile 144 = .ok (.aload_n 0, 1) := by decide +kernel
theorem dX8_writeFile_145 : decode cX8_writeFile 145 = .ok (.getfield 41, 3) := by decide +kernel
theorem dX8_writeFile_148 : decode cX8_writeFile 148 = .ok (.if_icmp .ge 73, 3) := by decide +kernel
theorem dX8_writeFile_151 : decode cX8_writeFile 151 = .ok (.aload_n 0, 1) := by decide +kernel
theorem dX8_writeFile_152 : decode cX8_writeFile 152 = .ok (.aload_n 1, 1) := by decide +kernel
theorem dX8_writeFile_153 : decode cX8_writeFile 153 = .ok (.aload_n 0, 1) := by decide +kernel
theorem dX8_writeFile_154 : decode cX8_writeFile 154 = .ok (.getfield 20, 3) := by decide +kernel
theorem dX8_writeFile_157 : decode cX8_writeFile 157 = .ok (.iload_n 2, 1) := by decide +kernel
theorem dX8_writeFile_158 : decode cX8_writeFile 158 = .ok (.iaload, 1) := by decide +kernel
theorem dX8_writeFile_159 : decode cX8_writeFile 159 = .ok (.invokevirtual 78, 3) := by decide +kernel
theorem dX8_writeFile_162 : decode cX8_writeFile 162 = .ok (.iconst 0, 1) := by decide +kernel
theorem dX8_writeFile_163 : decode cX8_writeFile 163 = .ok (.istore_n 3, 1) := by decide +kernel
theorem dX8_writeFile_164 : decode cX8_writeFile 164 = .ok (.iload_n 3, 1) := by decide +kernel
theorem dX8_writeFile_165 : decode cX8_writeFile 165 = .ok (.aload_n 0, 1) := by decide +kernel
theorem dX8_writeFile_166 : decode cX8_writeFile 166 = .ok (.getfield 20, 3) := by decide +kernel
theorem dX8_writeFile_169 : decode cX8_writeFile 169 = .ok (.iload_n 2, 1) := by decide +kernel
theorem dX8_writeFile_170 : decode cX8_writeFile 170 = .ok (.iaload, 1) := by decide +kernel
theorem dX8_writeFile_171 : decode cX8_writeFile 171 = .ok (.if_icmp .ge 44, 3) := by decide +kernel
theorem dX8_writeFile_174 : decode cX8_writeFile 174 = .ok (.aload_n 0, 1) := by decide +kernel
theorem dX8_writeFile_175 : decode cX8_writeFile 175 = .ok (.getfield 75, 3) := by decide +kernel
theorem dX8_writeFile_178 : decode cX8_writeFile 178 = .ok (.aload_n 1, 1) := by decide +kernel
theorem dX8_writeFile_179 : decode cX8_writeFile 179 = .ok (.arraylength, 1) := by decide +kernel
theorem dX8_writeFile_180 : decode cX8_writeFile 180 = .ok (.if_icmp .ge 35, 3) := by decide +kernel
theorem dX8_writeFile_183 : decode cX8_writeFile 183 = .ok (.aload_n 1, 1) := by decide +kernel
theorem dX8_writeFile_184 : decode cX8_writeFile 184 = .ok (.aload_n 0, 1) := by decide +kernel
theorem dX8_writeFile_185 : decode cX8_writeFile 185 = .ok (.dup, 1) := by decide +kernel
theorem dX8_writeFile_186 : decode cX8_writeFile 186 = .ok (.getfield 75, 3) := by decide +kernel
theorem dX8_writeFile_189 : decode cX8_writeFile 189 = .ok (.dup_x1, 1) := by decide +kernel
theorem dX8_writeFile_190 : decode cX8_writeFile 190 = .ok (.iconst 1, 1) := by decide +kernel
theorem dX8_writeFile_191 : decode cX8_writeFile 191 = .ok (.iadd, 1) := by decide +kernel
theorem dX8_writeFile_192 : decode cX8_writeFile 192 = .ok (.putfield 75, 3) := by decide +kernel
theorem dX8_writeFile_195 : decode cX8_writeFile 195 = .ok (.aload_n 0, 1) := by decide +kernel
theorem dX8_writeFile_196 : decode cX8_writeFile 196 = .ok (.getfield 10, 3) := by decide +kernel
theorem dX8_writeFile_199 : decode cX8_writeFile 199 = .ok (.aload_n 0, 1) := by decide +kernel
theorem dX8_writeFile_200 : decode cX8_writeFile 200 = .ok (.getfield 16, 3) := by decide +kernel
theorem dX8_writeFile_203 : decode cX8_writeFile 203 = .ok (.iload_n 2, 1) := by decide +kernel
theorem dX8_writeFile_204 : decode cX8_writeFile 204 = .ok (.iaload, 1) := by decide +kernel
theorem dX8_writeFile_205 : decode cX8_writeFile 205 = .ok (.iload_n 3, 1) := by decide +kernel
theorem dX8_writeFile_206 : decode cX8_writeFile 206 = .ok (.iadd, 1) := by decide +kernel
theorem dX8_writeFile_207 : decode cX8_writeFile 207 = .ok (.baload, 1) := by decide +kernel
theorem dX8_writeFile_208 : decode cX8_writeFile 208 = .ok (.bastore, 1) := by decide +kernel
theorem dX8_writeFile_209 : decode cX8_writeFile 209 = .ok (.iinc 3 1, 3) := by decide +kernel
theorem dX8_writeFile_212 : decode cX8_writeFile 212 = .ok (.goto (-48), 3) := by decide +kernel
theorem dX8_writeFile_215 : decode cX8_writeFile 215 = .ok (.iinc 2 1, 3) := by decide +kernel
theorem dX8_writeFile_218 : decode cX8_writeFile 218 = .ok (.goto (-75), 3) := by decide +kernel
theorem dX8_writeFile_221 : decode cX8_writeFile 221 = .ok (.aload_n 0, 1) := by decide +kernel
theorem dX8_writeFile_222 : decode cX8_writeFile 222 = .ok (.getfield 75, 3) := by decide +kernel
theorem dX8_writeFile_225 : decode cX8_writeFile 225 = .ok (.ireturn, 1) := by decide +kernel
def FX8_writeFile (G : GG) (M : DD) (a : Nat) (p0 : Option Nat) : Option (DD × Int32) :=
  ltt (uI M a 14 ((0 : Int32))) fun M1 =>
  bnd (FX8_put4 G M1 a p0 ((24 : Int32))) fun y2 =>
  bnd (FX8_put4 G y2 a p0 ((1718909296 : Int32))) fun y3 =>
  bnd (FX8_put4 G y3 a p0 ((1769172845 : Int32))) fun y4 =>
  bnd (FX8_put4 G y4 a p0 ((512 : Int32))) fun y5 =>
  bnd (FX8_put4 G y5 a p0 ((1769172845 : Int32))) fun y6 =>
  bnd (FX8_put4 G y6 a p0 ((1635148593 : Int32))) fun y7 =>
  bnd (FX8_trackLength G y7 a) fun y8 =>
  ltt ((((116 : Int32)) + y8.2)) fun x9 =>
  bnd (FX8_put4 G y8.1 a p0 x9) fun y10 =>
  bnd (FX8_put4 G y10 a p0 ((1836019574 : Int32))) fun y11 =>
  bnd (FX8_put4 G y11 a p0 ((108 : Int32))) fun y12 =>
  bnd (FX8_put4 G y12 a p0 ((1836476516 : Int32))) fun y13 =>
  bnd (itr (fun (s15 : Int32 × DD) => ((if ((25 : Int32)) ≤ s15.1 then (some (.inr (s15.1, s15.2))) else
  (bnd (FX8_put4 G s15.2 a p0 ((0 : Int32))) fun y59 =>
  ltt (s15.1 + (1 : Int32)) fun x60 =>
  some (.inl (x60, y59)))) : Option ((Int32 × DD) ⊕ (Int32 × DD)))) 1000000 ((0 : Int32), y13)) fun (y14 : Int32 × DD) =>
  bnd (FX8_trackLength G y14.2 a) fun y17 =>
  bnd (FX8_put4 G y17.1 a p0 y17.2) fun y18 =>
  bnd (FX8_put4 G y18 a p0 ((1953653099 : Int32))) fun y19 =>
  bnd (FX8_writeTables G y19 a p0) fun y20 =>
  bnd (FX8_contentLength G y20 a) fun y21 =>
  ltt ((((8 : Int32)) + y21.2)) fun x22 =>
  bnd (FX8_put4 G y21.1 a p0 x22) fun y23 =>
  bnd (FX8_put4 G y23 a p0 ((1835295092 : Int32))) fun y24 =>
  bnd (itr (fun (s26 : Int32 × DD) => ((ltt (s26.2.1 a 3) fun x30 =>
  if x30 ≤ s26.1 then (some (.inr (s26.1, s26.2))) else
  (dr G 13 ((s26.2.2 a 2)) fun b32 =>
  chk (¬ (s26.1 < 0 ∨ G.2.2 b32 ≤ s26.1.toNatClampNeg)) <|
  ltt (s26.2.1 b32 s26.1.toNatClampNeg) fun x33 =>
  bnd (FX8_put4 G s26.2 a p0 x33) fun y34 =>
  bnd (itr (fun (s36 : Int32 × DD) => ((dr G 13 ((s36.2.2 a 2)) fun b40 =>
  chk (¬ (s26.1 < 0 ∨ G.2.2 b40 ≤ s26.1.toNatClampNeg)) <|
  ltt (s36.2.1 b40 s26.1.toNatClampNeg) fun x41 =>
  if x41 ≤ s36.1 then (some (.inr (s36.1, s36.2))) else
  (ltt (s36.2.1 a 14) fun x43 =>
  dr G 12 p0 fun b44 =>
  ltt (Int32.ofNat (G.2.2 b44)) fun x45 =>
  if x45 ≤ x43 then (some (.inr (s36.1, s36.2))) else
  (ltt (s36.2.1 a 14) fun x47 =>
  ltt ((x47 + ((1 : Int32)))) fun x48 =>
  ltt (uI s36.2 a 14 x48) fun M49 =>
  dr G 13 ((M49.2 a 1)) fun b50 =>
  chk (¬ (s26.1 < 0 ∨ G.2.2 b50 ≤ s26.1.toNatClampNeg)) <|
  ltt (M49.1 b50 s26.1.toNatClampNeg) fun x51 =>
  ltt ((x51 + s36.1)) fun x52 =>
  dr G 12 ((M49.2 a 0)) fun b53 =>
  chk (¬ (x52 < 0 ∨ G.2.2 b53 ≤ x52.toNatClampNeg)) <|
  ltt (M49.1 b53 x52.toNatClampNeg) fun x54 =>
  chk (¬ (x47 < 0 ∨ G.2.2 b44 ≤ x47.toNatClampNeg)) <|
  ltt (uI M49 b44 x47.toNatClampNeg (vp_nar .byte x54)) fun M55 =>
  ltt (s36.1 + (1 : Int32)) fun x56 =>
  some (.inl (x56, M55))))) : Option ((Int32 × DD) ⊕ (Int32 × DD)))) 1000000 ((0 : Int32), y34)) fun (y35 : Int32 × DD) =>
  ltt (s26.1 + (1 : Int32)) fun x38 =>
  some (.inl (x38, y35.2)))) : Option ((Int32 × DD) ⊕ (Int32 × DD)))) 1000000 ((0 : Int32), y24)) fun (y25 : Int32 × DD) =>
  ltt (y25.2.1 a 14) fun x28 =>
  some (y25.2, x28)
set_option maxHeartbeats 4000000 in
set_option maxRecDepth 100000 in
theorem kX8_writeFile (l : Launch) (D : va_G) (ct : CT) (ad : Nat → Nat) (Z : Nat → Nat) (G : GG) (M : DD) (sz : Nat) (a : Nat) (p0 : Option Nat) (y : DD × Int32) (hc : a < G.1) (hk : G.2.1 a = 8) (hF : FX8_writeFile G M a p0 = some y) : Met l yX8_writeFile wuX8_writeFile ({ frames := 2, cells := 0, slots := 0, locals := 45 }) (va_Pc [.ref (ad a), va_re ad p0] (kB D ct ad Z G M sz)) (va_Qi (fun (q : Int32) (_ : Unit) => q = y.2) (fun _ t => kE D ct ad G (wA ad G sz) y.1 t) (wA ad G sz)) 0 0 (wA ad G sz) := by
  refine Met.ofW (cc := cX8_writeFile) (maxL := 4) (ret := (some .int)) (by decide) rfl ?_
  intro p e s m args below meth c s₁ B hml hv
  obtain ⟨rfl, hsz, hP, hK, hD0, hZ, hN⟩ := hv
  have hx := B.exec
  have hb := B.bytes
  have hr := B.returns
  have hts := atoms_spec (ws := wuX8_writeFile) B.pre
  have hown : s.vm.findClass RX8 = some m.cls := findClass_of_methodNamed B.named
  have hlocks := B.notSynchronized
  subst hsz
  have hD := wD_self (sz := s.heap.size) hD0
  have hA9 : ∀ q, s.heap.size ≤ q → wA ad G s.heap.size q := fun q h => Or.inr h
  generalize hAe : wA ad G s.heap.size = A at hD hA9 hZ ⊢
  have hS : va_S A s.heap s.heap [] := va_S.rf
  have hl := lv_entry ([.ref (ad a), va_re ad p0]) (n := 4) (by cases p0 <;> exact Nat.le_of_ble_eq_true rfl)
  rw [lg_entry_eq]
  generalize (lg_sl ([.ref (ad a), va_re ad p0]) ++ List.replicate (4 - (lg_sl ([.ref (ad a), va_re ad p0])).length) Slot.unset).toArray = ls at hl ⊢
  have hl : lv_has ls 4 [(0, .ref (ad a)), (1, va_re ad p0)] := by have e9 : lv_args 0 [.ref (ad a), va_re ad p0] = [(0, .ref (ad a)), (1, va_re ad p0)] := (by cases p0 <;> rfl); rw [e9] at hl; exact hl
  unfold FX8_writeFile at hF
  refine lv_aload_n hx hb dX8_writeFile_0 rfl (lv_at hl 0 rfl) ?_
  refine lv_iconst (v := (0 : Int32)) hx hb dX8_writeFile_1 (by decide) ?_
  refine va_put (D := D) (ci := 8) (v := .int (0 : Int32)) (ty := .int) (C := RX8) (T := TX8) (N := 15) hx hb hts (mus hf_X8) tyX8 tyX8_ok nmX8 hown hK hP hD hS a (wld_o ct ad G M hc hk (by decide)) rfl 14 (by decide) (hts (.fieldLink RX8 75 "VideoSuite$Units" "fileAt" "I") (mu mw_233)) (fun _ h9 => h9) rfl (by decide +kernel) rfl rfl (Nat.le_of_ble_eq_true rfl) dX8_writeFile_2 (fun H locs hP hD hS => ?_)
  obtain ⟨M1, eM1, hF⟩ := ltt_some hF
  rw [set_oI ct ad G M hc hk (by decide) (by rfl), ← eM1] at hP hD
  refine lv_aload_n hx hb dX8_writeFile_5 rfl (lv_at hl 0 rfl) ?_
  refine lv_aloadq_n hx hb dX8_writeFile_6 rfl (lv_at hl 1 rfl) ?_
  refine lv_bipush (v := (24 : Int32)) hx hb dX8_writeFile_7 (by decide) ?_
  obtain ⟨y2, hy2, hF⟩ := bnd_some hF
  have hf9 := wA_in hD hA9 hS
  refine va_callv (va_runV (As := [va_re ad p0, .int (24 : Int32)]) (rest := []) ⟨hx, hb, hml, hown, hts⟩ (kX8_put4 l D ct ad Z G M1 H.size a p0 ((24 : Int32)) y2 hc hk hy2) (cwV 2 hts gX8_writeFile_X8_put4 rfl rfl rfl (by decide +kernel) ⟨Nat.le_of_ble_eq_true rfl, Nat.le_of_ble_eq_true rfl⟩) ⟨fun a U g mk q => by obtain ⟨q0, q1, qP, qK, qD, qZ, qN⟩ := q; exact ⟨q0, q1, qP, va_K.moved (u := U) (U := U.calling g mk a) (Vm.Alike.refl U.vm) qK, qD, sF.moved (u := U) (U := U.calling g mk a) (Vm.Alike.refl U.vm) qZ, nF.same rfl qN⟩, va_recv hK hP (ci := 8) (q0 := a) rfl (wld_o ct ad G M1 hc hk (by decide)), fun U hU hW => ⟨rfl, by rw [hU], by rw [hU]; exact hP, va_K.moved hW.alike hK, hD.weaken (fun _ _ _ _ => trivial), by rw [hU]; exact ((hZ.kept hS.2.1).narrow hf9).moved hW.alike, hN.warm hW⟩⟩ rfl rfl hl.1 rfl (lv_room (Nat.le_of_ble_eq_true rfl)) dX8_writeFile_9 ⟨(Nat.zero_le _), (Nat.zero_le _)⟩) hS (fun q _ h => hf9 q h) hf9 (fun u t H locs ht hvm hw hB hz1 hk1 hS => ?_)
  obtain ⟨hP, hK9, hD9⟩ := hB
  rw [ht] at hP
  have hD := hD9.weaken (fun _ q _ h => hf9 q.1 h)
  refine lv_aload_n hx hb dX8_writeFile_12 rfl (lv_at hl 0 rfl) ?_
  refine lv_aloadq_n hx hb dX8_writeFile_13 rfl (lv_at hl 1 rfl) ?_
  refine lv_ldc (v := (1718909296 : Int32)) hx hb hown (hts (.constant RX8 82 (1718909296 : Int32)) (mu mw_2803)) dX8_writeFile_14 ?_
  obtain ⟨y3, hy3, hF⟩ := bnd_some hF
  have hf9 := wA_in hD hA9 hS
  refine va_callv (va_runV (As := [va_re ad p0, .int (1718909296 : Int32)]) (rest := []) ⟨hx, hb, hml, hown, hts⟩ (kX8_put4 l D ct ad Z G y2 H.size a p0 ((1718909296 : Int32)) y3 hc hk hy3) (cwV 2 hts gX8_writeFile_X8_put4 rfl rfl rfl (by decide +kernel) ⟨Nat.le_of_ble_eq_true rfl, Nat.le_of_ble_eq_true rfl⟩) ⟨fun a U g mk q => by obtain ⟨q0, q1, qP, qK, qD, qZ, qN⟩ := q; exact ⟨q0, q1, qP, va_K.moved (u := U) (U := U.calling g mk a) (Vm.Alike.refl U.vm) qK, qD, sF.moved (u := U) (U := U.calling g mk a) (Vm.Alike.refl U.vm) qZ, nF.same rfl qN⟩, va_recv hK hP (ci := 8) (q0 := a) rfl (wld_o ct ad G y2 hc hk (by decide)), fun U hU hW => ⟨rfl, by rw [hU], by rw [hU]; exact hP, va_K.moved hW.alike hK, hD.weaken (fun _ _ _ _ => trivial), by rw [hU]; exact ((hZ.kept hS.2.1).narrow hf9).moved hW.alike, hN.warm hW⟩⟩ rfl rfl hl.1 rfl (lv_room (Nat.le_of_ble_eq_true rfl)) dX8_writeFile_16 ⟨(Nat.zero_le _), (Nat.zero_le _)⟩) hS (fun q _ h => hf9 q h) hf9 (fun u t H locs ht hvm hw hB hz1 hk1 hS => ?_)
  obtain ⟨hP, hK9, hD9⟩ := hB
  rw [ht] at hP
  have hD := hD9.weaken (fun _ q _ h => hf9 q.1 h)
  refine lv_aload_n hx hb dX8_writeFile_19 rfl (lv_at hl 0 rfl) ?_
  refine lv_aloadq_n hx hb dX8_writeFile_20 rfl (lv_at hl 1 rfl) ?_
  refine lv_ldc (v := (1769172845 : Int32)) hx hb hown (hts (.constant RX8 83 (1769172845 : Int32)) (mu mw_2804)) dX8_writeFile_21 ?_
  obtain ⟨y4, hy4, hF⟩ := bnd_some hF
  have hf9 := wA_in hD hA9 hS
  refine va_callv (va_runV (As := [va_re ad p0, .int (1769172845 : Int32)]) (rest := []) ⟨hx, hb, hml, hown, hts⟩ (kX8_put4 l D ct ad Z G y3 H.size a p0 ((1769172845 : Int32)) y4 hc hk hy4) (cwV 2 hts gX8_writeFile_X8_put4 rfl rfl rfl (by decide +kernel) ⟨Nat.le_of_ble_eq_true rfl, Nat.le_of_ble_eq_true rfl⟩) ⟨fun a U g mk q => by obtain ⟨q0, q1, qP, qK, qD, qZ, qN⟩ := q; exact ⟨q0, q1, qP, va_K.moved (u := U) (U := U.calling g mk a) (Vm.Alike.refl U.vm) qK, qD, sF.moved (u := U) (U := U.calling g mk a) (Vm.Alike.refl U.vm) qZ, nF.same rfl qN⟩, va_recv hK hP (ci := 8) (q0 := a) rfl (wld_o ct ad G y3 hc hk (by decide)), fun U hU hW => ⟨rfl, by rw [hU], by rw [hU]; exact hP, va_K.moved hW.alike hK, hD.weaken (fun _ _ _ _ => trivial), by rw [hU]; exact ((hZ.kept hS.2.1).narrow hf9).moved hW.alike, hN.warm hW⟩⟩ rfl rfl hl.1 rfl (lv_room (Nat.le_of_ble_eq_true rfl)) dX8_writeFile_23 ⟨(Nat.zero_le _), (Nat.zero_le _)⟩) hS (fun q _ h => hf9 q h) hf9 (fun u t H locs ht hvm hw hB hz1 hk1 hS => ?_)
  obtain ⟨hP, hK9, hD9⟩ := hB
  rw [ht] at hP
  have hD := hD9.weaken (fun _ q _ h => hf9 q.1 h)
  refine lv_aload_n hx hb dX8_writeFile_26 rfl (lv_at hl 0 rfl) ?_
  refine lv_aloadq_n hx hb dX8_writeFile_27 rfl (lv_at hl 1 rfl) ?_
  refine lv_sipush (v := (512 : Int32)) hx hb dX8_writeFile_28 (by decide) ?_
  obtain ⟨y5, hy5, hF⟩ := bnd_some hF
  have hf9 := wA_in hD hA9 hS
  refine va_callv (va_runV (As := [va_re ad p0, .int (512 : Int32)]) (rest := []) ⟨hx, hb, hml, hown, hts⟩ (kX8_put4 l D ct ad Z G y4 H.size a p0 ((512 : Int32)) y5 hc hk hy5) (cwV 2 hts gX8_writeFile_X8_put4 rfl rfl rfl (by decide +kernel) ⟨Nat.le_of_ble_eq_true rfl, Nat.le_of_ble_eq_true rfl⟩) ⟨fun a U g mk q => by obtain ⟨q0, q1, qP, qK, qD, qZ, qN⟩ := q; exact ⟨q0, q1, qP, va_K.moved (u := U) (U := U.calling g mk a) (Vm.Alike.refl U.vm) qK, qD, sF.moved (u := U) (U := U.calling g mk a) (Vm.Alike.refl U.vm) qZ, nF.same rfl qN⟩, va_recv hK hP (ci := 8) (q0 := a) rfl (wld_o ct ad G y4 hc hk (by decide)), fun U hU hW => ⟨rfl, by rw [hU], by rw [hU]; exact hP, va_K.moved hW.alike hK, hD.weaken (fun _ _ _ _ => trivial), by rw [hU]; exact ((hZ.kept hS.2.1).narrow hf9).moved hW.alike, hN.warm hW⟩⟩ rfl rfl hl.1 rfl (lv_room (Nat.le_of_ble_eq_true rfl)) dX8_writeFile_31 ⟨(Nat.zero_le _), (Nat.zero_le _)⟩) hS (fun q _ h => hf9 q h) hf9 (fun u t H locs ht hvm hw hB hz1 hk1 hS => ?_)
  obtain ⟨hP, hK9, hD9⟩ := hB
  rw [ht] at hP
  have hD := hD9.weaken (fun _ q _ h => hf9 q.1 h)
  refine lv_aload_n hx hb dX8_writeFile_34 rfl (lv_at hl 0 rfl) ?_
  refine lv_aloadq_n hx hb dX8_writeFile_35 rfl (lv_at hl 1 rfl) ?_
  refine lv_ldc (v := (1769172845 : Int32)) hx hb hown (hts (.constant RX8 83 (1769172845 : Int32)) (mu mw_2804)) dX8_writeFile_36 ?_
  obtain ⟨y6, hy6, hF⟩ := bnd_some hF
  have hf9 := wA_in hD hA9 hS
  refine va_callv (va_runV (As := [va_re ad p0, .int (1769172845 : Int32)]) (rest := []) ⟨hx, hb, hml, hown, hts⟩ (kX8_put4 l D ct ad Z G y5 H.size a p0 ((1769172845 : Int32)) y6 hc hk hy6) (cwV 2 hts gX8_writeFile_X8_put4 rfl rfl rfl (by decide +kernel) ⟨Nat.le_of_ble_eq_true rfl, Nat.le_of_ble_eq_true rfl⟩) ⟨fun a U g mk q => by obtain ⟨q0, q1, qP, qK, qD, qZ, qN⟩ := q; exact ⟨q0, q1, qP, va_K.moved (u := U) (U := U.calling g mk a) (Vm.Alike.refl U.vm) qK, qD, sF.moved (u := U) (U := U.calling g mk a) (Vm.Alike.refl U.vm) qZ, nF.same rfl qN⟩, va_recv hK hP (ci := 8) (q0 := a) rfl (wld_o ct ad G y5 hc hk (by decide)), fun U hU hW => ⟨rfl, by rw [hU], by rw [hU]; exact hP, va_K.moved hW.alike hK, hD.weaken (fun _ _ _ _ => trivial), by rw [hU]; exact ((hZ.kept hS.2.1).narrow hf9).moved hW.alike, hN.warm hW⟩⟩ rfl rfl hl.1 rfl (lv_room (Nat.le_of_ble_eq_true rfl)) dX8_writeFile_38 ⟨(Nat.zero_le _), (Nat.zero_le _)⟩) hS (fun q _ h => hf9 q h) hf9 (fun u t H locs ht hvm hw hB hz1 hk1 hS => ?_)
  obtain ⟨hP, hK9, hD9⟩ := hB
  rw [ht] at hP
  have hD := hD9.weaken (fun _ q _ h => hf9 q.1 h)
  refine lv_aload_n hx hb dX8_writeFile_41 rfl (lv_at hl 0 rfl) ?_
  refine lv_aloadq_n hx hb dX8_writeFile_42 rfl (lv_at hl 1 rfl) ?_
  refine lv_ldc (v := (1635148593 : Int32)) hx hb hown (hts (.constant RX8 84 (1635148593 : Int32)) (mu mw_2805)) dX8_writeFile_43 ?_
  obtain ⟨y7, hy7, hF⟩ := bnd_some hF
  have hf9 := wA_in hD hA9 hS
  refine va_callv (va_runV (As := [va_re ad p0, .int (1635148593 : Int32)]) (rest := []) ⟨hx, hb, hml, hown, hts⟩ (kX8_put4 l D ct ad Z G y6 H.size a p0 ((1635148593 : Int32)) y7 hc hk hy7) (cwV 2 hts gX8_writeFile_X8_put4 rfl rfl rfl (by decide +kernel) ⟨Nat.le_of_ble_eq_true rfl, Nat.le_of_ble_eq_true rfl⟩) ⟨fun a U g mk q => by obtain ⟨q0, q1, qP, qK, qD, qZ, qN⟩ := q; exact ⟨q0, q1, qP, va_K.moved (u := U) (U := U.calling g mk a) (Vm.Alike.refl U.vm) qK, qD, sF.moved (u := U) (U := U.calling g mk a) (Vm.Alike.refl U.vm) qZ, nF.same rfl qN⟩, va_recv hK hP (ci := 8) (q0 := a) rfl (wld_o ct ad G y6 hc hk (by decide)), fun U hU hW => ⟨rfl, by rw [hU], by rw [hU]; exact hP, va_K.moved hW.alike hK, hD.weaken (fun _ _ _ _ => trivial), by rw [hU]; exact ((hZ.kept hS.2.1).narrow hf9).moved hW.alike, hN.warm hW⟩⟩ rfl rfl hl.1 rfl (lv_room (Nat.le_of_ble_eq_true rfl)) dX8_writeFile_45 ⟨(Nat.zero_le _), (Nat.zero_le _)⟩) hS (fun q _ h => hf9 q h) hf9 (fun u t H locs ht hvm hw hB hz1 hk1 hS => ?_)
  obtain ⟨hP, hK9, hD9⟩ := hB
  rw [ht] at hP
  have hD := hD9.weaken (fun _ q _ h => hf9 q.1 h)
  refine lv_aload_n hx hb dX8_writeFile_48 rfl (lv_at hl 0 rfl) ?_
  refine lv_aloadq_n hx hb dX8_writeFile_49 rfl (lv_at hl 1 rfl) ?_
  refine lv_bipush (v := (116 : Int32)) hx hb dX8_writeFile_50 (by decide) ?_
  refine lv_aload_n hx hb dX8_writeFile_52 rfl (lv_at hl 0 rfl) ?_
  obtain ⟨y8, hy8, hF⟩ := bnd_some hF
  have hf9 := wA_in hD hA9 hS
  refine va_calli (va_runV (As := []) (rest := [.int (116 : Int32), va_re ad p0, .ref (ad a)]) ⟨hx, hb, hml, hown, hts⟩ (kX8_trackLength l D ct ad Z G y7 H.size a y8 hc hk hy8) (cwV 0 hts gX8_writeFile_X8_trackLength rfl rfl rfl (by decide +kernel) ⟨Nat.le_of_ble_eq_true rfl, Nat.le_of_ble_eq_true rfl⟩) ⟨fun a U g mk q => by obtain ⟨q0, q1, qP, qK, qD, qZ, qN⟩ := q; exact ⟨q0, q1, qP, va_K.moved (u := U) (U := U.calling g mk a) (Vm.Alike.refl U.vm) qK, qD, sF.moved (u := U) (U := U.calling g mk a) (Vm.Alike.refl U.vm) qZ, nF.same rfl qN⟩, va_recv hK hP (ci := 8) (q0 := a) rfl (wld_o ct ad G y7 hc hk (by decide)), fun U hU hW => ⟨rfl, by rw [hU], by rw [hU]; exact hP, va_K.moved hW.alike hK, hD.weaken (fun _ _ _ _ => trivial), by rw [hU]; exact ((hZ.kept hS.2.1).narrow hf9).moved hW.alike, hN.warm hW⟩⟩ rfl rfl hl.1 rfl (lv_room (by simp only [List.map, va_re_cat]; exact Nat.le_of_ble_eq_true rfl)) dX8_writeFile_53 ⟨(Nat.zero_le _), (Nat.zero_le _)⟩) hS (fun q _ h => hf9 q h) hf9 (fun r u t H locs ht hvm hw hB hz1 hk1 hS => ?_)
  obtain ⟨hP, hK9, hD9⟩ := hB
  rw [ht] at hP
  try dsimp only at hw
  subst hw
  have hD := hD9.weaken (fun _ q _ h => hf9 q.1 h)
  refine lv_iadd hx hb dX8_writeFile_56 ?_
  obtain ⟨x9, ex9, hF⟩ := ltt_some hF
  refine lv_topi (fun zx9 ezx9 => ?_)
  obtain rfl : x9 = zx9 := ex9.trans ezx9.symm
  obtain ⟨y10, hy10, hF⟩ := bnd_some hF
  have hf9 := wA_in hD hA9 hS
  refine va_callv (va_runV (As := [va_re ad p0, .int x9]) (rest := []) ⟨hx, hb, hml, hown, hts⟩ (kX8_put4 l D ct ad Z G y8.1 H.size a p0 x9 y10 hc hk hy10) (cwV 2 hts gX8_writeFile_X8_put4 rfl rfl rfl (by decide +kernel) ⟨Nat.le_of_ble_eq_true rfl, Nat.le_of_ble_eq_true rfl⟩) ⟨fun a U g mk q => by obtain ⟨q0, q1, qP, qK, qD, qZ, qN⟩ := q; exact ⟨q0, q1, qP, va_K.moved (u := U) (U := U.calling g mk a) (Vm.Alike.refl U.vm) qK, qD, sF.moved (u := U) (U := U.calling g mk a) (Vm.Alike.refl U.vm) qZ, nF.same rfl qN⟩, va_recv hK hP (ci := 8) (q0 := a) rfl (wld_o ct ad G y8.1 hc hk (by decide)), fun U hU hW => ⟨rfl, by rw [hU], by rw [hU]; exact hP, va_K.moved hW.alike hK, hD.weaken (fun _ _ _ _ => trivial), by rw [hU]; exact ((hZ.kept hS.2.1).narrow hf9).moved hW.alike, hN.warm hW⟩⟩ rfl rfl hl.1 rfl (lv_room (Nat.le_of_ble_eq_true rfl)) dX8_writeFile_57 ⟨(Nat.zero_le _), (Nat.zero_le _)⟩) hS (fun q _ h => hf9 q h) hf9 (fun u t H locs ht hvm hw hB hz1 hk1 hS => ?_)
  obtain ⟨hP, hK9, hD9⟩ := hB
  rw [ht] at hP
  have hD := hD9.weaken (fun _ q _ h => hf9 q.1 h)
  refine lv_aload_n hx hb dX8_writeFile_60 rfl (lv_at hl 0 rfl) ?_
  refine lv_aloadq_n hx hb dX8_writeFile_61 rfl (lv_at hl 1 rfl) ?_
  refine lv_ldc (v := (1836019574 : Int32)) hx hb hown (hts (.constant RX8 85 (1836019574 : Int32)) (mu mw_2806)) dX8_writeFile_62 ?_
  obtain ⟨y11, hy11, hF⟩ := bnd_some hF
  have hf9 := wA_in hD hA9 hS
  refine va_callv (va_runV (As := [va_re ad p0, .int (1836019574 : Int32)]) (rest := []) ⟨hx, hb, hml, hown, hts⟩ (kX8_put4 l D ct ad Z G y10 H.size a p0 ((1836019574 : Int32)) y11 hc hk hy11) (cwV 2 hts gX8_writeFile_X8_put4 rfl rfl rfl (by decide +kernel) ⟨Nat.le_of_ble_eq_true rfl, Nat.le_of_ble_eq_true rfl⟩) ⟨fun a U g mk q => by obtain ⟨q0, q1, qP, qK, qD, qZ, qN⟩ := q; exact ⟨q0, q1, qP, va_K.moved (u := U) (U := U.calling g mk a) (Vm.Alike.refl U.vm) qK, qD, sF.moved (u := U) (U := U.calling g mk a) (Vm.Alike.refl U.vm) qZ, nF.same rfl qN⟩, va_recv hK hP (ci := 8) (q0 := a) rfl (wld_o ct ad G y10 hc hk (by decide)), fun U hU hW => ⟨rfl, by rw [hU], by rw [hU]; exact hP, va_K.moved hW.alike hK, hD.weaken (fun _ _ _ _ => trivial), by rw [hU]; exact ((hZ.kept hS.2.1).narrow hf9).moved hW.alike, hN.warm hW⟩⟩ rfl rfl hl.1 rfl (lv_room (Nat.le_of_ble_eq_true rfl)) dX8_writeFile_64 ⟨(Nat.zero_le _), (Nat.zero_le _)⟩) hS (fun q _ h => hf9 q h) hf9 (fun u t H locs ht hvm hw hB hz1 hk1 hS => ?_)
  obtain ⟨hP, hK9, hD9⟩ := hB
  rw [ht] at hP
  have hD := hD9.weaken (fun _ q _ h => hf9 q.1 h)
  refine lv_aload_n hx hb dX8_writeFile_67 rfl (lv_at hl 0 rfl) ?_
  refine lv_aloadq_n hx hb dX8_writeFile_68 rfl (lv_at hl 1 rfl) ?_
  refine lv_bipush (v := (108 : Int32)) hx hb dX8_writeFile_69 (by decide) ?_
  obtain ⟨y12, hy12, hF⟩ := bnd_some hF
  have hf9 := wA_in hD hA9 hS
  refine va_callv (va_runV (As := [va_re ad p0, .int (108 : Int32)]) (rest := []) ⟨hx, hb, hml, hown, hts⟩ (kX8_put4 l D ct ad Z G y11 H.size a p0 ((108 : Int32)) y12 hc hk hy12) (cwV 2 hts gX8_writeFile_X8_put4 rfl rfl rfl (by decide +kernel) ⟨Nat.le_of_ble_eq_true rfl, Nat.le_of_ble_eq_true rfl⟩) ⟨fun a U g mk q => by obtain ⟨q0, q1, qP, qK, qD, qZ, qN⟩ := q; exact ⟨q0, q1, qP, va_K.moved (u := U) (U := U.calling g mk a) (Vm.Alike.refl U.vm) qK, qD, sF.moved (u := U) (U := U.calling g mk a) (Vm.Alike.refl U.vm) qZ, nF.same rfl qN⟩, va_recv hK hP (ci := 8) (q0 := a) rfl (wld_o ct ad G y11 hc hk (by decide)), fun U hU hW => ⟨rfl, by rw [hU], by rw [hU]; exact hP, va_K.moved hW.alike hK, hD.weaken (fun _ _ _ _ => trivial), by rw [hU]; exact ((hZ.kept hS.2.1).narrow hf9).moved hW.alike, hN.warm hW⟩⟩ rfl rfl hl.1 rfl (lv_room (Nat.le_of_ble_eq_true rfl)) dX8_writeFile_71 ⟨(Nat.zero_le _), (Nat.zero_le _)⟩) hS (fun q _ h => hf9 q h) hf9 (fun u t H locs ht hvm hw hB hz1 hk1 hS => ?_)
  obtain ⟨hP, hK9, hD9⟩ := hB
  rw [ht] at hP
  have hD := hD9.weaken (fun _ q _ h => hf9 q.1 h)
  refine lv_aload_n hx hb dX8_writeFile_74 rfl (lv_at hl 0 rfl) ?_
  refine lv_aloadq_n hx hb dX8_writeFile_75 rfl (lv_at hl 1 rfl) ?_
  refine lv_ldc (v := (1836476516 : Int32)) hx hb hown (hts (.constant RX8 86 (1836476516 : Int32)) (mu mw_2807)) dX8_writeFile_76 ?_
  obtain ⟨y13, hy13, hF⟩ := bnd_some hF
  have hf9 := wA_in hD hA9 hS
  refine va_callv (va_runV (As := [va_re ad p0, .int (1836476516 : Int32)]) (rest := []) ⟨hx, hb, hml, hown, hts⟩ (kX8_put4 l D ct ad Z G y12 H.size a p0 ((1836476516 : Int32)) y13 hc hk hy13) (cwV 2 hts gX8_writeFile_X8_put4 rfl rfl rfl (by decide +kernel) ⟨Nat.le_of_ble_eq_true rfl, Nat.le_of_ble_eq_true rfl⟩) ⟨fun a U g mk q => by obtain ⟨q0, q1, qP, qK, qD, qZ, qN⟩ := q; exact ⟨q0, q1, qP, va_K.moved (u := U) (U := U.calling g mk a) (Vm.Alike.refl U.vm) qK, qD, sF.moved (u := U) (U := U.calling g mk a) (Vm.Alike.refl U.vm) qZ, nF.same rfl qN⟩, va_recv hK hP (ci := 8) (q0 := a) rfl (wld_o ct ad G y12 hc hk (by decide)), fun U hU hW => ⟨rfl, by rw [hU], by rw [hU]; exact hP, va_K.moved hW.alike hK, hD.weaken (fun _ _ _ _ => trivial), by rw [hU]; exact ((hZ.kept hS.2.1).narrow hf9).moved hW.alike, hN.warm hW⟩⟩ rfl rfl hl.1 rfl (lv_room (Nat.le_of_ble_eq_true rfl)) dX8_writeFile_78 ⟨(Nat.zero_le _), (Nat.zero_le _)⟩) hS (fun q _ h => hf9 q h) hf9 (fun u t H locs ht hvm hw hB hz1 hk1 hS => ?_)
  obtain ⟨hP, hK9, hD9⟩ := hB
  rw [ht] at hP
  have hD := hD9.weaken (fun _ q _ h => hf9 q.1 h)
  refine lv_iconst (v := (0 : Int32)) hx hb dX8_writeFile_81 (by decide) ?_
  refine lv_istore_n (lv' := [(2, .int (0 : Int32)), (0, .ref (ad a)), (1, va_re ad p0)]) hx hb dX8_writeFile_82 rfl hl (by decide) (by generalize p0 = o9; cases o9 <;> rfl) (fun ls hl => ?_)
  obtain ⟨y14, hy14, hF⟩ := bnd_some hF
  have K14 : ∀ (H : Heap) (locs : List Loc) (ls : Array Slot), va_P D classes (wld ct ad G y14.2) H → va_D A (wld ct ad G y14.2) → va_S A s.heap H locs → lv_has ls 4 [(2, .int y14.1), (0, .ref (ad a)), (1, va_re ad p0)] → W p l e (headSpec wuX8_writeFile ({ frames := 2, cells := 0, slots := 0, locals := 45 })).room s m ([.ref (ad a), va_re ad p0] : List Value).toArray below meth c H locs 0 0 (MQ below (va_Qi (fun (q : Int32) (_ : Unit) => q = y.2) (fun _ t => kE D ct ad G A y.1 t) A) ([.ref (ad a), va_re ad p0] : List Value).toArray s 0 0 A) (F0 m 101 ls []) := by
    intro H locs ls hP hD hS hl
    refine lv_aload_n hx hb dX8_writeFile_101 rfl (lv_at hl 1 rfl) ?_
    refine lv_aloadq_n hx hb dX8_writeFile_102 rfl (lv_at hl 2 rfl) ?_
    refine lv_aload_n hx hb dX8_writeFile_103 rfl (lv_at hl 1 rfl) ?_
    obtain ⟨y17, hy17, hF⟩ := bnd_some hF
    have hf9 := wA_in hD hA9 hS
    refine va_calli (va_runV (As := []) (rest := [va_re ad p0, .ref (ad a)]) ⟨hx, hb, hml, hown, hts⟩ (kX8_trackLength l D ct ad Z G y14.2 H.size a y17 hc hk hy17) (cwV 0 hts gX8_writeFile_X8_trackLength rfl rfl rfl (by decide +kernel) ⟨Nat.le_of_ble_eq_true rfl, Nat.le_of_ble_eq_true rfl⟩) ⟨fun a U g mk q => by obtain ⟨q0, q1, qP, qK, qD, qZ, qN⟩ := q; exact ⟨q0, q1, qP, va_K.moved (u := U) (U := U.calling g mk a) (Vm.Alike.refl U.vm) qK, qD, sF.moved (u := U) (U := U.calling g mk a) (Vm.Alike.refl U.vm) qZ, nF.same rfl qN⟩, va_recv hK hP (ci := 8) (q0 := a) rfl (wld_o ct ad G y14.2 hc hk (by decide)), fun U hU hW => ⟨rfl, by rw [hU], by rw [hU]; exact hP, va_K.moved hW.alike hK, hD.weaken (fun _ _ _ _ => trivial), by rw [hU]; exact ((hZ.kept hS.2.1).narrow hf9).moved hW.alike, hN.warm hW⟩⟩ rfl rfl hl.1 rfl (lv_room (by simp only [List.map, va_re_cat]; exact Nat.le_of_ble_eq_true rfl)) dX8_writeFile_104 ⟨(Nat.zero_le _), (Nat.zero_le _)⟩) hS (fun q _ h => hf9 q h) hf9 (fun r u t H locs ht hvm hw hB hz1 hk1 hS => ?_)
    obtain ⟨hP, hK9, hD9⟩ := hB
    rw [ht] at hP
    try dsimp only at hw
    subst hw
    have hD := hD9.weaken (fun _ q _ h => hf9 q.1 h)
    obtain ⟨y18, hy18, hF⟩ := bnd_some hF
    have hf9 := wA_in hD hA9 hS
    refine va_callv (va_runV (As := [va_re ad p0, .int y17.2]) (rest := []) ⟨hx, hb, hml, hown, hts⟩ (kX8_put4 l D ct ad Z G y17.1 H.size a p0 y17.2 y18 hc hk hy18) (cwV 2 hts gX8_writeFile_X8_put4 rfl rfl rfl (by decide +kernel) ⟨Nat.le_of_ble_eq_true rfl, Nat.le_of_ble_eq_true rfl⟩) ⟨fun a U g mk q => by obtain ⟨q0, q1, qP, qK, qD, qZ, qN⟩ := q; exact ⟨q0, q1, qP, va_K.moved (u := U) (U := U.calling g mk a) (Vm.Alike.refl U.vm) qK, qD, sF.moved (u := U) (U := U.calling g mk a) (Vm.Alike.refl U.vm) qZ, nF.same rfl qN⟩, va_recv hK hP (ci := 8) (q0 := a) rfl (wld_o ct ad G y17.1 hc hk (by decide)), fun U hU hW => ⟨rfl, by rw [hU], by rw [hU]; exact hP, va_K.moved hW.alike hK, hD.weaken (fun _ _ _ _ => trivial), by rw [hU]; exact ((hZ.kept hS.2.1).narrow hf9).moved hW.alike, hN.warm hW⟩⟩ rfl rfl hl.1 rfl (lv_room (Nat.le_of_ble_eq_true rfl)) dX8_writeFile_107 ⟨(Nat.zero_le _), (Nat.zero_le _)⟩) hS (fun q _ h => hf9 q h) hf9 (fun u t H locs ht hvm hw hB hz1 hk1 hS => ?_)
    obtain ⟨hP, hK9, hD9⟩ := hB
    rw [ht] at hP
    have hD := hD9.weaken (fun _ q _ h => hf9 q.1 h)
    refine lv_aload_n hx hb dX8_writeFile_110 rfl (lv_at hl 1 rfl) ?_
    refine lv_aloadq_n hx hb dX8_writeFile_111 rfl (lv_at hl 2 rfl) ?_
    refine lv_ldc (v := (1953653099 : Int32)) hx hb hown (hts (.constant RX8 87 (1953653099 : Int32)) (mu mw_2808)) dX8_writeFile_112 ?_
    obtain ⟨y19, hy19, hF⟩ := bnd_some hF
    have hf9 := wA_in hD hA9 hS
    refine va_callv (va_runV (As := [va_re ad p0, .int (1953653099 : Int32)]) (rest := []) ⟨hx, hb, hml, hown, hts⟩ (kX8_put4 l D ct ad Z G y18 H.size a p0 ((1953653099 : Int32)) y19 hc hk hy19) (cwV 2 hts gX8_writeFile_X8_put4 rfl rfl rfl (by decide +kernel) ⟨Nat.le_of_ble_eq_true rfl, Nat.le_of_ble_eq_true rfl⟩) ⟨fun a U g mk q => by obtain ⟨q0, q1, qP, qK, qD, qZ, qN⟩ := q; exact ⟨q0, q1, qP, va_K.moved (u := U) (U := U.calling g mk a) (Vm.Alike.refl U.vm) qK, qD, sF.moved (u := U) (U := U.calling g mk a) (Vm.Alike.refl U.vm) qZ, nF.same rfl qN⟩, va_recv hK hP (ci := 8) (q0 := a) rfl (wld_o ct ad G y18 hc hk (by decide)), fun U hU hW => ⟨rfl, by rw [hU], by rw [hU]; exact hP, va_K.moved hW.alike hK, hD.weaken (fun _ _ _ _ => trivial), by rw [hU]; exact ((hZ.kept hS.2.1).narrow hf9).moved hW.alike, hN.warm hW⟩⟩ rfl rfl hl.1 rfl (lv_room (Nat.le_of_ble_eq_true rfl)) dX8_writeFile_114 ⟨(Nat.zero_le _), (Nat.zero_le _)⟩) hS (fun q _ h => hf9 q h) hf9 (fun u t H locs ht hvm hw hB hz1 hk1 hS => ?_)
    obtain ⟨hP, hK9, hD9⟩ := hB
    rw [ht] at hP
    have hD := hD9.weaken (fun _ q _ h => hf9 q.1 h)
    refine lv_aload_n hx hb dX8_writeFile_117 rfl (lv_at hl 1 rfl) ?_
    refine lv_aloadq_n hx hb dX8_writeFile_118 rfl (lv_at hl 2 rfl) ?_
    obtain ⟨y20, hy20, hF⟩ := bnd_some hF
    have hf9 := wA_in hD hA9 hS
    refine va_callv (va_runV (As := [va_re ad p0]) (rest := []) ⟨hx, hb, hml, hown, hts⟩ (kX8_writeTables l D ct ad Z G y19 H.size a p0 y20 hc hk hy20) (cwV 1 hts gX8_writeFile_X8_writeTables rfl rfl rfl (by decide +kernel) ⟨Nat.le_of_ble_eq_true rfl, Nat.le_of_ble_eq_true rfl⟩) ⟨fun a U g mk q => by obtain ⟨q0, q1, qP, qK, qD, qZ, qN⟩ := q; exact ⟨q0, q1, qP, va_K.moved (u := U) (U := U.calling g mk a) (Vm.Alike.refl U.vm) qK, qD, sF.moved (u := U) (U := U.calling g mk a) (Vm.Alike.refl U.vm) qZ, nF.same rfl qN⟩, va_recv hK hP (ci := 8) (q0 := a) rfl (wld_o ct ad G y19 hc hk (by decide)), fun U hU hW => ⟨rfl, by rw [hU], by rw [hU]; exact hP, va_K.moved hW.alike hK, hD.weaken (fun _ _ _ _ => trivial), by rw [hU]; exact ((hZ.kept hS.2.1).narrow hf9).moved hW.alike, hN.warm hW⟩⟩ rfl rfl hl.1 rfl (lv_room (Nat.le_of_ble_eq_true rfl)) dX8_writeFile_119 ⟨(Nat.zero_le _), (Nat.zero_le _)⟩) hS (fun q _ h => hf9 q h) hf9 (fun u t H locs ht hvm hw hB hz1 hk1 hS => ?_)
    obtain ⟨hP, hK9, hD9⟩ := hB
    rw [ht] at hP
    have hD := hD9.weaken (fun _ q _ h => hf9 q.1 h)
    refine lv_aload_n hx hb dX8_writeFile_122 rfl (lv_at hl 1 rfl) ?_
    refine lv_aloadq_n hx hb dX8_writeFile_123 rfl (lv_at hl 2 rfl) ?_
    refine lv_bipush (v := (8 : Int32)) hx hb dX8_writeFile_124 (by decide) ?_
    refine lv_aload_n hx hb dX8_writeFile_126 rfl (lv_at hl 1 rfl) ?_
    obtain ⟨y21, hy21, hF⟩ := bnd_some hF
    have hf9 := wA_in hD hA9 hS
    refine va_calli (va_runV (As := []) (rest := [.int (8 : Int32), va_re ad p0, .ref (ad a)]) ⟨hx, hb, hml, hown, hts⟩ (kX8_contentLength l D ct ad Z G y20 H.size a y21 hc hk hy21) (cwV 0 hts gX8_writeFile_X8_contentLength rfl rfl rfl (by decide +kernel) ⟨Nat.le_of_ble_eq_true rfl, Nat.le_of_ble_eq_true rfl⟩) ⟨fun a U g mk q => by obtain ⟨q0, q1, qP, qK, qD, qZ, qN⟩ := q; exact ⟨q0, q1, qP, va_K.moved (u := U) (U := U.calling g mk a) (Vm.Alike.refl U.vm) qK, qD, sF.moved (u := U) (U := U.calling g mk a) (Vm.Alike.refl U.vm) qZ, nF.same rfl qN⟩, va_recv hK hP (ci := 8) (q0 := a) rfl (wld_o ct ad G y20 hc hk (by decide)), fun U hU hW => ⟨rfl, by rw [hU], by rw [hU]; exact hP, va_K.moved hW.alike hK, hD.weaken (fun _ _ _ _ => trivial), by rw [hU]; exact ((hZ.kept hS.2.1).narrow hf9).moved hW.alike, hN.warm hW⟩⟩ rfl rfl hl.1 rfl (lv_room (by simp only [List.map, va_re_cat]; exact Nat.le_of_ble_eq_true rfl)) dX8_writeFile_127 ⟨(Nat.zero_le _), (Nat.zero_le _)⟩) hS (fun q _ h => hf9 q h) hf9 (fun r u t H locs ht hvm hw hB hz1 hk1 hS => ?_)
    obtain ⟨hP, hK9, hD9⟩ := hB
    rw [ht] at hP
    try dsimp only at hw
    subst hw
    have hD := hD9.weaken (fun _ q _ h => hf9 q.1 h)
    refine lv_iadd hx hb dX8_writeFile_130 ?_
    obtain ⟨x22, ex22, hF⟩ := ltt_some hF
    refine lv_topi (fun zx22 ezx22 => ?_)
    obtain rfl : x22 = zx22 := ex22.trans ezx22.symm
    obtain ⟨y23, hy23, hF⟩ := bnd_some hF
    have hf9 := wA_in hD hA9 hS
    refine va_callv (va_runV (As := [va_re ad p0, .int x22]) (rest := []) ⟨hx, hb, hml, hown, hts⟩ (kX8_put4 l D ct ad Z G y21.1 H.size a p0 x22 y23 hc hk hy23) (cwV 2 hts gX8_writeFile_X8_put4 rfl rfl rfl (by decide +kernel) ⟨Nat.le_of_ble_eq_true rfl, Nat.le_of_ble_eq_true rfl⟩) ⟨fun a U g mk q => by obtain ⟨q0, q1, qP, qK, qD, qZ, qN⟩ := q; exact ⟨q0, q1, qP, va_K.moved (u := U) (U := U.calling g mk a) (Vm.Alike.refl U.vm) qK, qD, sF.moved (u := U) (U := U.calling g mk a) (Vm.Alike.refl U.vm) qZ, nF.same rfl qN⟩, va_recv hK hP (ci := 8) (q0 := a) rfl (wld_o ct ad G y21.1 hc hk (by decide)), fun U hU hW => ⟨rfl, by rw [hU], by rw [hU]; exact hP, va_K.moved hW.alike hK, hD.weaken (fun _ _ _ _ => trivial), by rw [hU]; exact ((hZ.kept hS.2.1).narrow hf9).moved hW.alike, hN.warm hW⟩⟩ rfl rfl hl.1 rfl (lv_room (Nat.le_of_ble_eq_true rfl)) dX8_writeFile_131 ⟨(Nat.zero_le _), (Nat.zero_le _)⟩) hS (fun q _ h => hf9 q h) hf9 (fun u t H locs ht hvm hw hB hz1 hk1 hS => ?_)
    obtain ⟨hP, hK9, hD9⟩ := hB
    rw [ht] at hP
    have hD := hD9.weaken (fun _ q _ h => hf9 q.1 h)
    refine lv_aload_n hx hb dX8_writeFile_134 rfl (lv_at hl 1 rfl) ?_
    refine lv_aloadq_n hx hb dX8_writeFile_135 rfl (lv_at hl 2 rfl) ?_
    refine lv_ldc (v := (1835295092 : Int32)) hx hb hown (hts (.constant RX8 92 (1835295092 : Int32)) (mu mw_2815)) dX8_writeFile_136 ?_
    obtain ⟨y24, hy24, hF⟩ := bnd_some hF
    have hf9 := wA_in hD hA9 hS
    refine va_callv (va_runV (As := [va_re ad p0, .int (1835295092 : Int32)]) (rest := []) ⟨hx, hb, hml, hown, hts⟩ (kX8_put4 l D ct ad Z G y23 H.size a p0 ((1835295092 : Int32)) y24 hc hk hy24) (cwV 2 hts gX8_writeFile_X8_put4 rfl rfl rfl (by decide +kernel) ⟨Nat.le_of_ble_eq_true rfl, Nat.le_of_ble_eq_true rfl⟩) ⟨fun a U g mk q => by obtain ⟨q0, q1, qP, qK, qD, qZ, qN⟩ := q; exact ⟨q0, q1, qP, va_K.moved (u := U) (U := U.calling g mk a) (Vm.Alike.refl U.vm) qK, qD, sF.moved (u := U) (U := U.calling g mk a) (Vm.Alike.refl U.vm) qZ, nF.same rfl qN⟩, va_recv hK hP (ci := 8) (q0 := a) rfl (wld_o ct ad G y23 hc hk (by decide)), fun U hU hW => ⟨rfl, by rw [hU], by rw [hU]; exact hP, va_K.moved hW.alike hK, hD.weaken (fun _ _ _ _ => trivial), by rw [hU]; exact ((hZ.kept hS.2.1).narrow hf9).moved hW.alike, hN.warm hW⟩⟩ rfl rfl hl.1 rfl (lv_room (Nat.le_of_ble_eq_true rfl)) dX8_writeFile_138 ⟨(Nat.zero_le _), (Nat.zero_le _)⟩) hS (fun q _ h => hf9 q h) hf9 (fun u t H locs ht hvm hw hB hz1 hk1 hS => ?_)
    obtain ⟨hP, hK9, hD9⟩ := hB
    rw [ht] at hP
    have hD := hD9.weaken (fun _ q _ h => hf9 q.1 h)
    refine lv_iconst (v := (0 : Int32)) hx hb dX8_writeFile_141 (by decide) ?_
    refine lv_istore_n (lv' := [(2, .int (0 : Int32)), (0, .ref (ad a)), (1, va_re ad p0)]) hx hb dX8_writeFile_142 rfl hl (by decide) (by generalize p0 = o9; cases o9 <;> rfl) (fun ls hl => ?_)
    obtain ⟨y25, hy25, hF⟩ := bnd_some hF
    have K25 : ∀ (H : Heap) (locs : List Loc) (ls : Array Slot), va_P D classes (wld ct ad G y25.2) H → va_D A (wld ct ad G y25.2) → va_S A s.heap H locs → lv_has ls 4 [(2, .int y25.1), (0, .ref (ad a)), (1, va_re ad p0)] → W p l e (headSpec wuX8_writeFile ({ frames := 2, cells := 0, slots := 0, locals := 45 })).room s m ([.ref (ad a), va_re ad p0] : List Value).toArray below meth c H locs 0 0 (MQ below (va_Qi (fun (q : Int32) (_ : Unit) => q = y.2) (fun _ t => kE D ct ad G A y.1 t) A) ([.ref (ad a), va_re ad p0] : List Value).toArray s 0 0 A) (F0 m 221 ls []) := by
      intro H locs ls hP hD hS hl
      refine lv_aload_n hx hb dX8_writeFile_221 rfl (lv_at hl 1 rfl) ?_
      refine va_get (D := D) (ci := 8) (v := .int (y25.2.1 a 14)) (C := RX8) (T := TX8) (N := 15) hx hb hts (mus hf_X8) hown hK hP a (wld_o ct ad G y25.2 hc hk (by decide)) rfl 14 (by decide) (hts (.fieldLink RX8 75 "VideoSuite$Units" "fileAt" "I") (mu mw_233)) (fun _ h9 => h9) rfl dX8_writeFile_222 ?_
      obtain ⟨x28, ex28, hF⟩ := ltt_some hF
      refine lv_topi (fun zx28 ezx28 => ?_)
      obtain rfl : x28 = zx28 := ex28.trans ezx28.symm
      obtain rfl := Option.some.inj hF
      exact W.iret (v := x28) hx hb hr (fun t ht hW => ⟨⟨_, (), rfl, rfl, ⟨by rw [ht]; exact hP, va_K.moved hW.alike hK, hD⟩⟩, hS.F ht⟩) hS.2.2 dX8_writeFile_225
    clear hF
    refine itr_rule (fun (s26 : Int32 × DD) => ∀ (H : Heap) (locs : List Loc) (ls : Array Slot), va_P D classes (wld ct ad G s26.2) H → va_D A (wld ct ad G s26.2) → va_S A s.heap H locs → lv_has ls 4 [(2, .int s26.1), (0, .ref (ad a)), (1, va_re ad p0)] → W p l e (headSpec wuX8_writeFile ({ frames := 2, cells := 0, slots := 0, locals := 45 })).room s m ([.ref (ad a), va_re ad p0] : List Value).toArray below meth c H locs 0 0 (MQ below (va_Qi (fun (q : Int32) (_ : Unit) => q = y.2) (fun _ t => kE D ct ad G A y.1 t) A) ([.ref (ad a), va_re ad p0] : List Value).toArray s 0 0 A) (F0 m 143 ls [])) ?_ _ _ hy25 _ _ _ hP hD hS (lv_sub hl [0, 1, 2] rfl)
    rintro s26 ⟨z29, hF, hwz29⟩ H locs ls hP hD hS hl
    try dsimp only at hF
    refine lv_iload_n hx hb dX8_writeFile_143 rfl (lv_at hl 0 rfl) ?_
    refine lv_aload_n hx hb dX8_writeFile_144 rfl (lv_at hl 1 rfl) ?_
    refine va_get (D := D) (ci := 8) (v := .int (s26.2.1 a 3)) (C := RX8) (T := TX8) (N := 15) hx hb hts (mus hf_X8) hown hK hP a (wld_o ct ad G s26.2 hc hk (by decide)) rfl 3 (by decide) (hts (.fieldLink RX8 41 "VideoSuite$Units" "count" "I") (mu mw_216)) (fun _ h9 => h9) rfl dX8_writeFile_145 ?_
    obtain ⟨x30, ex30, hF⟩ := ltt_some hF
    refine lv_topi (fun zx30 ezx30 => ?_)
    obtain rfl : x30 = zx30 := ex30.trans ezx30.symm
    refine lv_icmp_ge (tgt := 221) hx hb dX8_writeFile_148 (by decide) (fun c31 => ?_) (fun c31 => ?_)
    · rw [if_pos c31] at hF
      obtain rfl := Option.some.inj hF
      subst hwz29
      exact K25 _ _ _ hP hD hS (lv_sub hl [0, 1, 2] rfl)
    · rw [if_neg c31] at hF
      refine lv_aload_n hx hb dX8_writeFile_151 rfl (lv_at hl 1 rfl) ?_
      refine lv_aloadq_n hx hb dX8_writeFile_152 rfl (lv_at hl 2 rfl) ?_
      refine lv_aload_n hx hb dX8_writeFile_153 rfl (lv_at hl 1 rfl) ?_
      refine va_get (D := D) (ci := 8) (v := va_re ad (s26.2.2 a 2)) (C := RX8) (T := TX8) (N := 15) hx hb hts (mus hf_X8) hown hK hP a (wld_o ct ad G s26.2 hc hk (by decide)) rfl 2 (by decide) (hts (.fieldLink RX8 20 "VideoSuite$Units" "size" "[I") (mu mw_214)) (fun _ h9 => h9) rfl dX8_writeFile_154 ?_
      refine lv_iload_n hx hb dX8_writeFile_157 rfl (lv_at hl 0 rfl) ?_
      obtain ⟨b32, ho32, hc32, hk32, hF⟩ := dr_some hF
      refine W_st (st' := [.int s26.1, .ref (ad b32), va_re ad p0, .ref (ad a)]) (by rw [va_some ho32]) ?_
      obtain ⟨hvc, hF⟩ := chk_some hF
      refine va_iald hx hb hK hP b32 1 (wld_i ct ad G s26.2 hc32 hk32) rfl hvc dX8_writeFile_158 ?_
      obtain ⟨x33, ex33, hF⟩ := ltt_some hF
      refine lv_topi (fun zx33 ezx33 => ?_)
      obtain rfl : x33 = zx33 := ex33.trans ezx33.symm
      obtain ⟨y34, hy34, hF⟩ := bnd_some hF
      have hf9 := wA_in hD hA9 hS
      refine va_callv (va_runV (As := [va_re ad p0, .int x33]) (rest := []) ⟨hx, hb, hml, hown, hts⟩ (kX8_put4 l D ct ad Z G s26.2 H.size a p0 x33 y34 hc hk hy34) (cwV 2 hts gX8_writeFile_X8_put4 rfl rfl rfl (by decide +kernel) ⟨Nat.le_of_ble_eq_true rfl, Nat.le_of_ble_eq_true rfl⟩) ⟨fun a U g mk q => by obtain ⟨q0, q1, qP, qK, qD, qZ, qN⟩ := q; exact ⟨q0, q1, qP, va_K.moved (u := U) (U := U.calling g mk a) (Vm.Alike.refl U.vm) qK, qD, sF.moved (u := U) (U := U.calling g mk a) (Vm.Alike.refl U.vm) qZ, nF.same rfl qN⟩, va_recv hK hP (ci := 8) (q0 := a) rfl (wld_o ct ad G s26.2 hc hk (by decide)), fun U hU hW => ⟨rfl, by rw [hU], by rw [hU]; exact hP, va_K.moved hW.alike hK, hD.weaken (fun _ _ _ _ => trivial), by rw [hU]; exact ((hZ.kept hS.2.1).narrow hf9).moved hW.alike, hN.warm hW⟩⟩ rfl rfl hl.1 rfl (lv_room (Nat.le_of_ble_eq_true rfl)) dX8_writeFile_159 ⟨(Nat.zero_le _), (Nat.zero_le _)⟩) hS (fun q _ h => hf9 q h) hf9 (fun u t H locs ht hvm hw hB hz1 hk1 hS => ?_)
      obtain ⟨hP, hK9, hD9⟩ := hB
      rw [ht] at hP
      have hD := hD9.weaken (fun _ q _ h => hf9 q.1 h)
      refine lv_iconst (v := (0 : Int32)) hx hb dX8_writeFile_162 (by decide) ?_
      refine lv_istore_n (lv' := [(3, .int (0 : Int32)), (2, .int s26.1), (0, .ref (ad a)), (1, va_re ad p0)]) hx hb dX8_writeFile_163 rfl hl (by decide) rfl (fun ls hl => ?_)
      obtain ⟨y35, hy35, hF⟩ := bnd_some hF
      have K35 : ∀ (H : Heap) (locs : List Loc) (ls : Array Slot), va_P D classes (wld ct ad G y35.2) H → va_D A (wld ct ad G y35.2) → va_S A s.heap H locs → lv_has ls 4 [(3, .int y35.1), (2, .int s26.1), (0, .ref (ad a)), (1, va_re ad p0)] → W p l e (headSpec wuX8_writeFile ({ frames := 2, cells := 0, slots := 0, locals := 45 })).room s m ([.ref (ad a), va_re ad p0] : List Value).toArray below meth c H locs 0 0 (MQ below (va_Qi (fun (q : Int32) (_ : Unit) => q = y.2) (fun _ t => kE D ct ad G A y.1 t) A) ([.ref (ad a), va_re ad p0] : List Value).toArray s 0 0 A) (F0 m 215 ls []) := by
        intro H locs ls hP hD hS hl
        obtain ⟨x38, ex38, hF⟩ := ltt_some hF
        refine lv_iinc (v := x38) (lv' := [(2, .int x38), (3, .int y35.1), (0, .ref (ad a)), (1, va_re ad p0)]) hx hb dX8_writeFile_215 hl (k := 1) rfl (by rw [ex38]; rfl) (by decide) (by generalize p0 = o9; cases o9 <;> rfl) (fun ls hl => ?_)
        refine lv_goto (tgt := 143) hx hb dX8_writeFile_218 (by decide) ?_
        obtain rfl := Option.some.inj hF
        exact hwz29 _ _ _ hP hD hS (lv_sub hl [0, 2, 3] rfl)
      clear hF
      refine itr_rule (fun (s36 : Int32 × DD) => ∀ (H : Heap) (locs : List Loc) (ls : Array Slot), va_P D classes (wld ct ad G s36.2) H → va_D A (wld ct ad G s36.2) → va_S A s.heap H locs → lv_has ls 4 [(3, .int s36.1), (2, .int s26.1), (0, .ref (ad a)), (1, va_re ad p0)] → W p l e (headSpec wuX8_writeFile ({ frames := 2, cells := 0, slots := 0, locals := 45 })).room s m ([.ref (ad a), va_re ad p0] : List Value).toArray below meth c H locs 0 0 (MQ below (va_Qi (fun (q : Int32) (_ : Unit) => q = y.2) (fun _ t => kE D ct ad G A y.1 t) A) ([.ref (ad a), va_re ad p0] : List Value).toArray s 0 0 A) (F0 m 164 ls [])) ?_ _ _ hy35 _ _ _ hP hD hS (lv_sub hl [0, 1, 2, 3] rfl)
      rintro s36 ⟨z39, hF, hwz39⟩ H locs ls hP hD hS hl
      try dsimp only at hF
      refine lv_iload_n hx hb dX8_writeFile_164 rfl (lv_at hl 0 rfl) ?_
      refine lv_aload_n hx hb dX8_writeFile_165 rfl (lv_at hl 2 rfl) ?_
      refine va_get (D := D) (ci := 8) (v := va_re ad (s36.2.2 a 2)) (C := RX8) (T := TX8) (N := 15) hx hb hts (mus hf_X8) hown hK hP a (wld_o ct ad G s36.2 hc hk (by decide)) rfl 2 (by decide) (hts (.fieldLink RX8 20 "VideoSuite$Units" "size" "[I") (mu mw_214)) (fun _ h9 => h9) rfl dX8_writeFile_166 ?_
      refine lv_iload_n hx hb dX8_writeFile_169 rfl (lv_at hl 1 rfl) ?_
      obtain ⟨b40, ho40, hc40, hk40, hF⟩ := dr_some hF
      refine W_st (st' := [.int s26.1, .ref (ad b40), .int s36.1]) (by rw [va_some ho40]) ?_
      obtain ⟨hvc, hF⟩ := chk_some hF
      refine va_iald hx hb hK hP b40 1 (wld_i ct ad G s36.2 hc40 hk40) rfl hvc dX8_writeFile_170 ?_
      obtain ⟨x41, ex41, hF⟩ := ltt_some hF
      refine lv_topi (fun zx41 ezx41 => ?_)
      obtain rfl : x41 = zx41 := ex41.trans ezx41.symm
      refine lv_icmp_ge (tgt := 215) hx hb dX8_writeFile_171 (by decide) (fun c42 => ?_) (fun c42 => ?_)
      · rw [if_pos c42] at hF
        obtain rfl := Option.some.inj hF
        subst hwz39
        exact K35 _ _ _ hP hD hS (lv_sub hl [0, 1, 2, 3] rfl)
      · rw [if_neg c42] at hF
        refine lv_aload_n hx hb dX8_writeFile_174 rfl (lv_at hl 2 rfl) ?_
        refine va_get (D := D) (ci := 8) (v := .int (s36.2.1 a 14)) (C := RX8) (T := TX8) (N := 15) hx hb hts (mus hf_X8) hown hK hP a (wld_o ct ad G s36.2 hc hk (by decide)) rfl 14 (by decide) (hts (.fieldLink RX8 75 "VideoSuite$Units" "fileAt" "I") (mu mw_233)) (fun _ h9 => h9) rfl dX8_writeFile_175 ?_
        obtain ⟨x43, ex43, hF⟩ := ltt_some hF
        refine lv_topi (fun zx43 ezx43 => ?_)
        obtain rfl : x43 = zx43 := ex43.trans ezx43.symm
        refine lv_aloadq_n hx hb dX8_writeFile_178 rfl (lv_at hl 3 rfl) ?_
        obtain ⟨b44, ho44, hc44, hk44, hF⟩ := dr_some hF
        refine W_st (st' := [.ref (ad b44), .int x43]) (by rw [va_some ho44]) ?_
        refine va_alen (v := Int32.ofNat (G.2.2 b44)) hx hb hK hP b44 0 (wld_b ct ad G s36.2 hc44 hk44) rfl rfl dX8_writeFile_179 ?_
        obtain ⟨x45, ex45, hF⟩ := ltt_some hF
        refine lv_topi (fun zx45 ezx45 => ?_)
        obtain rfl : x45 = zx45 := ex45.trans ezx45.symm
        refine lv_icmp_ge (tgt := 215) hx hb dX8_writeFile_180 (by decide) (fun c46 => ?_) (fun c46 => ?_)
        · rw [if_pos c46] at hF
          obtain rfl := Option.some.inj hF
          subst hwz39
          exact K35 _ _ _ hP hD hS (lv_sub hl [0, 1, 2, 3] rfl)
        · rw [if_neg c46] at hF
          refine lv_aloadq_n hx hb dX8_writeFile_183 rfl (lv_at hl 3 rfl) ?_
          refine lv_aload_n hx hb dX8_writeFile_184 rfl (lv_at hl 2 rfl) ?_
          refine lv_dup hx hb dX8_writeFile_185 rfl ?_
          refine va_get (D := D) (ci := 8) (v := .int (s36.2.1 a 14)) (C := RX8) (T := TX8) (N := 15) hx hb hts (mus hf_X8) hown hK hP a (wld_o ct ad G s36.2 hc hk (by decide)) rfl 14 (by decide) (hts (.fieldLink RX8 75 "VideoSuite$Units" "fileAt" "I") (mu mw_233)) (fun _ h9 => h9) rfl dX8_writeFile_186 ?_
          obtain ⟨x47, ex47, hF⟩ := ltt_some hF
          refine lv_topi (fun zx47 ezx47 => ?_)
          obtain rfl : x47 = zx47 := ex47.trans ezx47.symm
          refine lv_dup_x1 hx hb dX8_writeFile_189 rfl rfl ?_
          refine lv_iconst (v := (1 : Int32)) hx hb dX8_writeFile_190 (by decide) ?_
          refine lv_iadd hx hb dX8_writeFile_191 ?_
          obtain ⟨x48, ex48, hF⟩ := ltt_some hF
          refine lv_topi (fun zx48 ezx48 => ?_)
          obtain rfl : x48 = zx48 := ex48.trans ezx48.symm
          refine va_put (D := D) (ci := 8) (v := .int x48) (ty := .int) (C := RX8) (T := TX8) (N := 15) hx hb hts (mus hf_X8) tyX8 tyX8_ok nmX8 hown hK hP hD hS a (wld_o ct ad G s36.2 hc hk (by decide)) rfl 14 (by decide) (hts (.fieldLink RX8 75 "VideoSuite$Units" "fileAt" "I") (mu mw_233)) (fun _ h9 => h9) rfl (by decide +kernel) rfl rfl (Nat.le_of_ble_eq_true rfl) dX8_writeFile_192 (fun H locs hP hD hS => ?_)
          obtain ⟨M49, eM49, hF⟩ := ltt_some hF
          rw [set_oI ct ad G s36.2 hc hk (by decide) (by rfl), ← eM49] at hP hD
          refine lv_aload_n hx hb dX8_writeFile_195 rfl (lv_at hl 2 rfl) ?_
          refine va_get (D := D) (ci := 8) (v := va_re ad (M49.2 a 0)) (C := RX8) (T := TX8) (N := 15) hx hb hts (mus hf_X8) hown hK hP a (wld_o ct ad G M49 hc hk (by decide)) rfl 0 (by decide) (hts (.fieldLink RX8 10 "VideoSuite$Units" "bytes" "[B") (mu mw_212)) (fun _ h9 => h9) rfl dX8_writeFile_196 ?_
          refine lv_aload_n hx hb dX8_writeFile_199 rfl (lv_at hl 2 rfl) ?_
          refine va_get (D := D) (ci := 8) (v := va_re ad (M49.2 a 1)) (C := RX8) (T := TX8) (N := 15) hx hb hts (mus hf_X8) hown hK hP a (wld_o ct ad G M49 hc hk (by decide)) rfl 1 (by decide) (hts (.fieldLink RX8 16 "VideoSuite$Units" "start" "[I") (mu mw_213)) (fun _ h9 => h9) rfl dX8_writeFile_200 ?_
          refine lv_iload_n hx hb dX8_writeFile_203 rfl (lv_at hl 1 rfl) ?_
          obtain ⟨b50, ho50, hc50, hk50, hF⟩ := dr_some hF
          refine W_st (st' := [.int s26.1, .ref (ad b50), va_re ad (M49.2 a 0), .int x47, va_re ad p0]) (by rw [va_some ho50]) ?_
          obtain ⟨hvc, hF⟩ := chk_some hF
          refine va_iald hx hb hK hP b50 1 (wld_i ct ad G M49 hc50 hk50) rfl hvc dX8_writeFile_204 ?_
          obtain ⟨x51, ex51, hF⟩ := ltt_some hF
          refine lv_topi (fun zx51 ezx51 => ?_)
          obtain rfl : x51 = zx51 := ex51.trans ezx51.symm
          refine lv_iload_n hx hb dX8_writeFile_205 rfl (lv_at hl 0 rfl) ?_
          refine lv_iadd hx hb dX8_writeFile_206 ?_
          obtain ⟨x52, ex52, hF⟩ := ltt_some hF
          refine lv_topi (fun zx52 ezx52 => ?_)
          obtain rfl : x52 = zx52 := ex52.trans ezx52.symm
          obtain ⟨b53, ho53, hc53, hk53, hF⟩ := dr_some hF
          refine W_st (st' := [.int x52, .ref (ad b53), .int x47, va_re ad p0]) (by rw [va_some ho53]) ?_
          obtain ⟨hvc, hF⟩ := chk_some hF
          refine va_bald hx hb hK hP b53 0 (wld_b ct ad G M49 hc53 hk53) rfl hvc dX8_writeFile_207 ?_
          obtain ⟨x54, ex54, hF⟩ := ltt_some hF
          refine lv_topi (fun zx54 ezx54 => ?_)
          obtain rfl : x54 = zx54 := ex54.trans ezx54.symm
          refine W_st (st' := [.int x54, .int x47, .ref (ad b44)]) (by rw [va_some ho44]) ?_
          obtain ⟨hvc, hF⟩ := chk_some hF
          refine va_bast hx hb hK hP hD hS b44 0 (wld_b ct ad G M49 hc44 hk44) rfl hvc dX8_writeFile_208 (fun H locs hP hD hS => ?_)
          obtain ⟨M55, eM55, hF⟩ := ltt_some hF
          rw [set_b ct ad G M49 hc44 hk44, ← eM55] at hP hD
          obtain ⟨x56, ex56, hF⟩ := ltt_some hF
          refine lv_iinc (v := x56) (lv' := [(3, .int x56), (2, .int s26.1), (0, .ref (ad a)), (1, va_re ad p0)]) hx hb dX8_writeFile_209 hl (k := 0) rfl (by rw [ex56]; rfl) (by decide) rfl (fun ls hl => ?_)
          refine lv_goto (tgt := 164) hx hb dX8_writeFile_212 (by decide) ?_
          obtain rfl := Option.some.inj hF
          exact hwz39 _ _ _ hP hD hS (lv_sub hl [0, 1, 2, 3] rfl)
  clear hF
  refine itr_rule (fun (s15 : Int32 × DD) => ∀ (H : Heap) (locs : List Loc) (ls : Array Slot), va_P D classes (wld ct ad G s15.2) H → va_D A (wld ct ad G s15.2) → va_S A s.heap H locs → lv_has ls 4 [(2, .int s15.1), (0, .ref (ad a)), (1, va_re ad p0)] → W p l e (headSpec wuX8_writeFile ({ frames := 2, cells := 0, slots := 0, locals := 45 })).room s m ([.ref (ad a), va_re ad p0] : List Value).toArray below meth c H locs 0 0 (MQ below (va_Qi (fun (q : Int32) (_ : Unit) => q = y.2) (fun _ t => kE D ct ad G A y.1 t) A) ([.ref (ad a), va_re ad p0] : List Value).toArray s 0 0 A) (F0 m 83 ls [])) ?_ _ _ hy14 _ _ _ hP hD hS (lv_sub hl [0, 1, 2] rfl)
  rintro s15 ⟨z57, hF, hwz57⟩ H locs ls hP hD hS hl
  try dsimp only at hF
  refine lv_iload_n hx hb dX8_writeFile_83 rfl (lv_at hl 0 rfl) ?_
  refine lv_bipush (v := (25 : Int32)) hx hb dX8_writeFile_84 (by decide) ?_
  refine lv_icmp_ge (tgt := 101) hx hb dX8_writeFile_86 (by decide) (fun c58 => ?_) (fun c58 => ?_)
  · rw [if_pos c58] at hF
    obtain rfl := Option.some.inj hF
    subst hwz57
    exact K14 _ _ _ hP hD hS (lv_sub hl [0, 1, 2] rfl)
  · rw [if_neg c58] at hF
    refine lv_aload_n hx hb dX8_writeFile_89 rfl (lv_at hl 1 rfl) ?_
    refine lv_aloadq_n hx hb dX8_writeFile_90 rfl (lv_at hl 2 rfl) ?_
    refine lv_iconst (v := (0 : Int32)) hx hb dX8_writeFile_91 (by decide) ?_
    obtain ⟨y59, hy59, hF⟩ := bnd_some hF
    have hf9 := wA_in hD hA9 hS
    refine va_callv (va_runV (As := [va_re ad p0, .int (0 : Int32)]) (rest := []) ⟨hx, hb, hml, hown, hts⟩ (kX8_put4 l D ct ad Z G s15.2 H.size a p0 ((0 : Int32)) y59 hc hk hy59) (cwV 2 hts gX8_writeFile_X8_put4 rfl rfl rfl (by decide +kernel) ⟨Nat.le_of_ble_eq_true rfl, Nat.le_of_ble_eq_true rfl⟩) ⟨fun a U g mk q => by obtain ⟨q0, q1, qP, qK, qD, qZ, qN⟩ := q; exact ⟨q0, q1, qP, va_K.moved (u := U) (U := U.calling g mk a) (Vm.Alike.refl U.vm) qK, qD, sF.moved (u := U) (U := U.calling g mk a) (Vm.Alike.refl U.vm) qZ, nF.same rfl qN⟩, va_recv hK hP (ci := 8) (q0 := a) rfl (wld_o ct ad G s15.2 hc hk (by decide)), fun U hU hW => ⟨rfl, by rw [hU], by rw [hU]; exact hP, va_K.moved hW.alike hK, hD.weaken (fun _ _ _ _ => trivial), by rw [hU]; exact ((hZ.kept hS.2.1).narrow hf9).moved hW.alike, hN.warm hW⟩⟩ rfl rfl hl.1 rfl (lv_room (Nat.le_of_ble_eq_true rfl)) dX8_writeFile_92 ⟨(Nat.zero_le _), (Nat.zero_le _)⟩) hS (fun q _ h => hf9 q h) hf9 (fun u t H locs ht hvm hw hB hz1 hk1 hS => ?_)
    obtain ⟨hP, hK9, hD9⟩ := hB
    rw [ht] at hP
    have hD := hD9.weaken (fun _ q _ h => hf9 q.1 h)
    obtain ⟨x60, ex60, hF⟩ := ltt_some hF
    refine lv_iinc (v := x60) (lv' := [(2, .int x60), (0, .ref (ad a)), (1, va_re ad p0)]) hx hb dX8_writeFile_95 hl (k := 0) rfl (by rw [ex60]; rfl) (by decide) (by generalize p0 = o9; cases o9 <;> rfl) (fun ls hl => ?_)
    refine lv_goto (tgt := 83) hx hb dX8_writeFile_98 (by decide) ?_
    obtain rfl := Option.some.inj hF
    exact hwz57 _ _ _ hP hD hS (lv_sub hl [0, 1, 2] rfl)
set_option maxRecDepth 20000 in
theorem gX9_clearMoves_X4_at : GoodIn wuX9_clearMoves (va_wsS RX9 80 yX4_at wuX4_at) := gu_S mw_1795 mw_1796 mw_185 mw_1797
set_option maxRecDepth 20000 in
set_option maxRecDepth 20000 in
theorem gX9_clearMoves_J7_fill_fda19 : GoodIn wuX9_clearMoves (va_wsS RX9 67 yJ7_fill_fda19 wuJ7_fill_fda19) := gu_S mw_1555 mw_1556 mw_182 mw_1557
theorem dX9_clearMoves_0 : decode cX9_clearMoves 0 = .ok (.iconst 0, 1) := by decide +kernel
theorem dX9_clearMoves_1 : decode cX9_clearMoves 1 = .ok (.istore_n 2, 1) := by decide +kernel
theorem dX9_clearMoves_2 : decode cX9_clearMoves 2 = .ok (.iload_n 2, 1) := by decide +kernel
theorem dX9_clearMoves_3 : decode cX9_clearMoves 3 = .ok (.iconst 2, 1) := by decide +kernel
theorem dX9_clearMoves_4 : decode cX9_clearMoves 4 = .ok (.if_icmp .ge 70, 3) := by decide +kernel
theorem dX9_clearMoves_7 : decode cX9_clearMoves 7 = .ok (.iload_n 2, 1) := by decide +kernel
theorem dX9_clearMoves_8 : decode cX9_clearMoves 8 = .ok (.bipush 16, 2) := by decide +kernel
theorem dX9_clearMoves_10 : decode cX9_clearMoves 10 = .ok (.iload_n 1, 1) := by decide +kernel
theorem dX9_clearMoves_11 : decode cX9_clearMoves 11 = .ok (.imul, 1) := by decide +kernel
theorem dX9_clearMoves_12 : decode cX9_clearMoves 12 = .ok (.invokestatic 80, 3) := by decide +kernel
theorem dX9_clearMoves_15 : decode cX9_clearMoves 15 = .ok (.istore_n 3, 1) := by decide +kernel
theorem dX9_clearMoves_16 : decode cX9_clearMoves 16 = .ok (.aload_n 0, 1) := by decide +kernel
theorem dX9_clearMoves_17 : decode cX9_clearMoves 17 = .ok (.getfield 51, 3) := by decide +kernel
theorem dX9_clearMoves_20 : decode cX9_clearMoves 20 = .ok (.getfield 83, 3) := by decide +kernel
theorem dX9_clearMoves_23 : decode cX9_clearMoves 23 = .ok (.iload_n 3, 1) := by decide +kernel
theorem dX9_clearMoves_24 : decode cX9_clearMoves 24 = .ok (.iload_n 3, 1) := by decide +kernel
theorem dX9_clearMoves_25 : decode cX9_clearMoves 25 = .ok (.bipush 16, 2) := by decide +kernel
theorem dX9_clearMoves_27 : decode cX9_clearMoves 27 = .ok (.iadd, 1) := by decide +kernel
theorem dX9_clearMoves_28 : decode cX9_clearMoves 28 = .ok (.iconst (-1), 1) := by decide +kernel
theorem dX9_clearMoves_29 : decode cX9_clearMoves 29 = .ok (.invokestatic 67, 3) := by decide +kernel
theorem dX9_clearMoves_32 : decode cX9_clearMoves 32 = .ok (.aload_n 0, 1) := by decide +kernel
theorem dX9_clearMoves_33 : decode cX9_clearMoves 33 = .ok (.getfield 51, 3) := by decide +kernel
theorem dX9_clearMoves_36 : decode cX9_clearMoves 36 = .ok (.getfield 86, 3) := by decide +kernel
theorem dX9_clearMoves_39 : decode cX9_clearMoves 39 = .ok (.iload_n 3, 1) := by decide +kernel
theorem dX9_clearMoves_40 : decode cX9_clearMoves 40 = .ok (.iload_n 3, 1) := by decide +kernel
theorem dX9_clearMoves_41 : decode cX9_clearMoves 41 = .ok (.bipush 16, 2) := by decide +kernel
theorem dX9_clearMoves_43 : decode cX9_clearMoves 43 = .ok (.iadd, 1) := by decide +kernel
theorem dX9_clearMoves_44 : decode cX9_clearMoves 44 = .ok (.iconst 0, 1) := by decide +kernel
theorem dX9_clearMoves_45 : decode cX9_clearMoves 45 = .ok (.invokestatic 67, 3) := by decide +kernel
theorem dX9_clearMoves_48 : decode cX9_clearMoves 48 = .ok (.aload_n 0, 1) := by decide +kernel
theorem dX9_clearMoves_49 : decode cX9_clearMoves 49 = .ok (.getfield 51, 3) := by decide +kernel
theorem dX9_clearMoves_52 : decode cX9_clearMoves 52 = .ok (.getfield 89, 3) := by decide +kernel
theorem dX9_clearMoves_55 : decode cX9_clearMoves 55 = .ok (.iconst 2, 1) := by decide +kernel
theorem dX9_clearMoves_56 : decode cX9_clearMoves 56 = .ok (.iload_n 3, 1) := by decide +kernel
theorem dX9_clearMoves_57 : decode cX9_clearMoves 57 = .ok (.imul, 1) := by decide +kernel
theorem dX9_clearMoves_58 : decode cX9_clearMoves 58 = .ok (.iconst 2, 1) := by decide +kernel
theorem dX9_clearMoves_59 : decode cX9_clearMoves 59 = .ok (.iload_n 3, 1) := by decide +kernel
theorem dX9_clearMoves_60 : decode cX9_clearMoves 60 = .ok (.imul, 1) := by decide +kernel
theorem dX9_clearMoves_61 : decode cX9_clearMoves 61 = .ok (.bipush 32, 2) := by decide +kernel
theorem dX9_clearMoves_63 : decode cX9_clearMoves 63 = .ok (.iadd, 1) := by decide +kernel
theorem dX9_clearMoves_64 : decode cX9_clearMoves 64 = .ok (.iconst 0, 1) := by decide +kernel
theorem dX9_clearMoves_65 : decode cX9_clearMoves 65 = .ok (.invokestatic 67, 3) := by decide +kernel
theorem dX9_clearMoves_68 : decode cX9_clearMoves 68 = .ok (.iinc 2 1, 3) := by decide +kernel
theorem dX9_clearMoves_71 : decode cX9_clearMoves 71 = .ok (.goto (-69), 3) := by decide +kernel
theorem dX9_clearMoves_74 : decode cX9_clearMoves 74 = .ok (.return_, 1) := by decide +kernel
def FX9_clearMoves (G : GG) (M : DD) (a : Nat) (p0 : Int32) : Option (DD) :=
  bnd (itr (fun (s2 : Int32 × DD) => ((if ((2 : Int32)) ≤ s2.1 then (some (.inr (s2.1, s2.2))) else
  (ltt ((((16 : Int32)) * p0)) fun x6 =>
  bnd (FX4_at G s2.2 s2.1 x6) fun y7 =>
  dr G 4 ((y7.1.2 a 0)) fun b8 =>
  ltt ((y7.2 + ((16 : Int32)))) fun x9 =>
  bnd (FJ7_fill_fda19 G y7.1 ((y7.1.2 b8 5)) y7.2 x9 ((-1 : Int32))) fun y10 =>
  dr G 4 ((y10.2 a 0)) fun b11 =>
  ltt ((y7.2 + ((16 : Int32)))) fun x12 =>
  bnd (FJ7_fill_fda19 G y10 ((y10.2 b11 6)) y7.2 x12 ((0 : Int32))) fun y13 =>
  dr G 4 ((y13.2 a 0)) fun b14 =>
  ltt ((((2 : Int32)) * y7.2)) fun x15 =>
  ltt ((((2 : Int32)) * y7.2)) fun x16 =>
  ltt ((x16 + ((32 : Int32)))) fun x17 =>
  bnd (FJ7_fill_fda19 G y13 ((y13.2 b14 7)) x15 x17 ((0 : Int32))) fun y18 =>
  ltt (s2.1 + (1 : Int32)) fun x19 =>
  some (.inl (x19, y18)))) : Option ((Int32 × DD) ⊕ (Int32 × DD)))) 1000000 ((0 : Int32), M)) fun (y1 : Int32 × DD) =>
  some y1.2
set_option maxHeartbeats 4000000 in
set_option maxRecDepth 100000 in
theorem kX9_clearMoves (l : Launch) (D : va_G) (ct : CT) (ad : Nat → Nat) (Z : Nat → Nat) (G : GG) (M : DD) (sz : Nat) (a : Nat) (p0 : Int32) (y : DD) (hc : a < G.1) (hk : G.2.1 a = 9) (hF : FX9_clearMoves G M a p0 = some y) : Met l yX9_clearMoves wuX9_clearMoves ({ frames := 2, cells := 0, slots := 0, locals := 46 }) (va_Pc [.ref (ad a), .int p0] (kB D ct ad Z G M sz)) (va_Qv (fun (_ : Unit) => True) (fun _ t => kE D ct ad G (wA ad G sz) y t) (wA ad G sz)) 0 0 (wA ad G sz) := by
  refine Met.ofW (cc := cX9_clearMoves) (maxL := 4) (ret := none) (by decide) rfl ?_
  intro p e s m args below meth c s₁ B hml hv
  obtain ⟨rfl, hsz, hP, hK, hD0, hZ, hN⟩ := hv
  have hx := B.exec
  have hb := B.bytes
  have hr := B.returns
  have hts := atoms_spec (ws := wuX9_clearMoves) B.pre
  have hown : s.vm.findClass RX9 = some m.cls := findClass_of_methodNamed B.named
  have hlocks := B.notSynchronized
  subst hsz
  have hD := wD_self (sz := s.heap.size) hD0
  have hA9 : ∀ q, s.heap.size ≤ q → wA ad G s.heap.size q := fun q h => Or.inr h
  generalize hAe : wA ad G s.heap.size = A at hD hA9 hZ ⊢
  have hS : va_S A s.heap s.heap [] := va_S.rf
  have hl := lv_entry ([.ref (ad a), .int p0]) (n := 4) (Nat.le_of_ble_eq_true rfl)
  rw [lg_entry_eq]
  generalize (lg_sl ([.ref (ad a), .int p0]) ++ List.replicate (4 - (lg_sl ([.ref (ad a), .int p0])).length) Slot.unset).toArray = ls at hl ⊢
  have hl : lv_has ls 4 [(0, .ref (ad a)), (1, .int p0)] := hl
  unfold FX9_clearMoves at hF
  refine lv_iconst (v := (0 : Int32)) hx hb dX9_clearMoves_0 (by decide) ?_
  refine lv_istore_n (lv' := [(2, .int (0 : Int32)), (0, .ref (ad a)), (1, .int p0)]) hx hb dX9_clearMoves_1 rfl hl (by decide) rfl (fun ls hl => ?_)
  obtain ⟨y1, hy1, hF⟩ := bnd_some hF
  have K1 : ∀ (H : Heap) (locs : List Loc) (ls : Array Slot), va_P D classes (wld ct ad G y1.2) H → va_D A (wld ct ad G y1.2) → va_S A s.heap H locs → lv_has ls 4 [(2, .int y1.1), (0, .ref (ad a)), (1, .int p0)] → W p l e (headSpec wuX9_clearMoves ({ frames := 2, cells := 0, slots := 0, locals := 46 })).room s m ([.ref (ad a), .int p0] : List Value).toArray below meth c H locs 0 0 (MQ below (va_Qv (fun (_ : Unit) => True) (fun _ t => kE D ct ad G A y t) A) ([.ref (ad a), .int p0] : List Value).toArray s 0 0 A) (F0 m 74 ls []) := by
    intro H locs ls hP hD hS hl
    obtain rfl := Option.some.inj hF
    exact W.vret hx hb hr (fun t ht hW => ⟨⟨(), rfl, trivial, ⟨by rw [ht]; exact hP, va_K.moved hW.alike hK, hD⟩⟩, hS.F ht⟩) hS.2.2 dX9_clearMoves_74
  clear hF
  refine itr_rule (fun (s2 : Int32 × DD) => ∀ (H : Heap) (locs : List Loc) (ls : Array Slot), va_P D classes (wld ct ad G s2.2) H → va_D A (wld ct ad G s2.2) → va_S A s.heap H locs → lv_has ls 4 [(2, .int s2.1), (0, .ref (ad a)), (1, .int p0)] → W p l e (headSpec wuX9_clearMoves ({ frames := 2, cells := 0, slots := 0, locals := 46 })).room s m ([.ref (ad a), .int p0] : List Value).toArray below meth c H locs 0 0 (MQ below (va_Qv (fun (_ : Unit) => True) (fun _ t => kE D ct ad G A y t) A) ([.ref (ad a), .int p0] : List Value).toArray s 0 0 A) (F0 m 2 ls [])) ?_ _ _ hy1 _ _ _ hP hD hS (lv_sub hl [0, 1, 2] rfl)
  rintro s2 ⟨z4, hF, hwz4⟩ H locs ls hP hD hS hl
  try dsimp only at hF
  refine lv_iload_n hx hb dX9_clearMoves_2 rfl (lv_at hl 0 rfl) ?_
  refine lv_iconst (v := (2 : Int32)) hx hb dX9_clearMoves_3 (by decide) ?_
  refine lv_icmp_ge (tgt := 74) hx hb dX9_clearMoves_4 (by decide) (fun c5 => ?_) (fun c5 => ?_)
  · rw [if_pos c5] at hF
    obtain rfl := Option.some.inj hF
    subst hwz4
    exact K1 _ _ _ hP hD hS (lv_sub hl [0, 1, 2] rfl)
  · rw [if_neg c5] at hF
    refine lv_iload_n hx hb dX9_clearMoves_7 rfl (lv_at hl 0 rfl) ?_
    refine lv_bipush (v := (16 : Int32)) hx hb dX9_clearMoves_8 (by decide) ?_
    refine lv_iload_n hx hb dX9_clearMoves_10 rfl (lv_at hl 2 rfl) ?_
    refine lv_imul hx hb dX9_clearMoves_11 ?_
    obtain ⟨x6, ex6, hF⟩ := ltt_some hF
    refine lv_topi (fun zx6 ezx6 => ?_)
    obtain rfl : x6 = zx6 := ex6.trans ezx6.symm
    obtain ⟨y7, hy7, hF⟩ := bnd_some hF
    have hf9 := wA_in hD hA9 hS
    refine va_calli (va_runS (As := [.int s2.1, .int x6]) (rest := []) ⟨hx, hb, hml, hown, hts⟩ (kX4_at l D ct ad Z G s2.2 H.size s2.1 x6 y7 hy7) (va_cwS 2 hts gX9_clearMoves_X4_at rfl rfl rfl (by decide +kernel) ⟨Nat.le_of_ble_eq_true rfl, Nat.le_of_ble_eq_true rfl⟩) ⟨fun a U g mk q => by obtain ⟨q0, q1, qP, qK, qD, qZ, qN⟩ := q; exact ⟨q0, q1, qP, va_K.moved (u := U) (U := U.calling g mk a) (Vm.Alike.refl U.vm) qK, qD, sF.moved (u := U) (U := U.calling g mk a) (Vm.Alike.refl U.vm) qZ, nF.same rfl qN⟩, fun U hU hW => ⟨rfl, by rw [hU], by rw [hU]; exact hP, va_K.moved hW.alike hK, hD.weaken (fun _ _ _ _ => trivial), by rw [hU]; exact ((hZ.kept hS.2.1).narrow hf9).moved hW.alike, hN.warm hW⟩⟩ rfl rfl hl.1 rfl (lv_room (Nat.le_of_ble_eq_true rfl)) dX9_clearMoves_12 ⟨(Nat.zero_le _), (Nat.zero_le _)⟩) hS (fun q _ h => hf9 q h) hf9 (fun r u t H locs ht hvm hw hB hz1 hk1 hS => ?_)
    obtain ⟨hP, hK9, hD9⟩ := hB
    rw [ht] at hP
    try dsimp only at hw
    subst hw
    have hD := hD9.weaken (fun _ q _ h => hf9 q.1 h)
    refine lv_istore_n (lv' := [(3, .int y7.2), (2, .int s2.1), (0, .ref (ad a)), (1, .int p0)]) hx hb dX9_clearMoves_15 rfl hl (by decide) rfl (fun ls hl => ?_)
    refine lv_aload_n hx hb dX9_clearMoves_16 rfl (lv_at hl 2 rfl) ?_
    refine va_get (D := D) (ci := 9) (v := va_re ad (y7.1.2 a 0)) (C := RX9) (T := TX9) (N := 20) hx hb hts (mus hf_X9) hown hK hP a (wld_o ct ad G y7.1 hc hk (by decide)) rfl 0 (by decide) (hts (.fieldLink RX9 51 "VideoSuite$Work" "pic" "LVideoSuite$Picture;") (mu mw_422)) (fun _ h9 => h9) rfl dX9_clearMoves_17 ?_
    obtain ⟨b8, ho8, hc8, hk8, hF⟩ := dr_some hF
    refine W_st (st' := [.ref (ad b8)]) (by rw [va_some ho8]) ?_
    refine va_get (D := D) (ci := 4) (v := va_re ad (y7.1.2 b8 5)) (C := RX4) (T := TX4) (N := 18) hx hb hts (mus hf_X4) hown hK hP b8 (wld_o ct ad G y7.1 hc8 hk8 (by decide)) rfl 5 (by decide) (hts (.fieldLink RX9 83 "VideoSuite$Picture" "reference" "[I") (mu mw_1439)) (fun _ h9 => h9) rfl dX9_clearMoves_20 ?_
    refine lv_iload_n hx hb dX9_clearMoves_23 rfl (lv_at hl 0 rfl) ?_
    refine lv_iload_n hx hb dX9_clearMoves_24 rfl (lv_at hl 0 rfl) ?_
    refine lv_bipush (v := (16 : Int32)) hx hb dX9_clearMoves_25 (by decide) ?_
    refine lv_iadd hx hb dX9_clearMoves_27 ?_
    obtain ⟨x9, ex9, hF⟩ := ltt_some hF
    refine lv_topi (fun zx9 ezx9 => ?_)
    obtain rfl : x9 = zx9 := ex9.trans ezx9.symm
    refine lv_iconst (v := (-1 : Int32)) hx hb dX9_clearMoves_28 (by decide) ?_
    obtain ⟨y10, hy10, hF⟩ := bnd_some hF
    have hf9 := wA_in hD hA9 hS
    refine va_callv (va_runS (As := [va_re ad (y7.1.2 b8 5), .int y7.2, .int x9, .int (-1 : Int32)]) (rest := []) ⟨hx, hb, hml, hown, hts⟩ (kJ7_fill_fda19 l D ct ad Z G y7.1 H.size ((y7.1.2 b8 5)) y7.2 x9 ((-1 : Int32)) y10 hy10) (va_cwS 4 hts gX9_clearMoves_J7_fill_fda19 rfl rfl rfl (by decide +kernel) ⟨Nat.le_of_ble_eq_true rfl, Nat.le_of_ble_eq_true rfl⟩) ⟨fun a U g mk q => by obtain ⟨q0, q1, qP, qK, qD, qZ, qN⟩ := q; exact ⟨q0, q1, qP, va_K.moved (u := U) (U := U.calling g mk a) (Vm.Alike.refl U.vm) qK, qD, sF.moved (u := U) (U := U.calling g mk a) (Vm.Alike.refl U.vm) qZ, nF.same rfl qN⟩, fun U hU hW => ⟨rfl, by rw [hU], by rw [hU]; exact hP, va_K.moved hW.alike hK, hD.weaken (fun _ _ _ _ => trivial), by rw [hU]; exact ((hZ.kept hS.2.1).narrow hf9).moved hW.alike, hN.warm hW⟩⟩ rfl rfl hl.1 rfl (lv_room (Nat.le_of_ble_eq_true rfl)) dX9_clearMoves_29 ⟨(Nat.zero_le _), (Nat.zero_le _)⟩) hS (fun q _ h => hf9 q h) hf9 (fun u t H locs ht hvm hw hB hz1 hk1 hS => ?_)
    obtain ⟨hP, hK9, hD9⟩ := hB
    rw [ht] at hP
    have hD := hD9.weaken (fun _ q _ h => hf9 q.1 h)
    refine lv_aload_n hx hb dX9_clearMoves_32 rfl (lv_at hl 2 rfl) ?_
    refine va_get (D := D) (ci := 9) (v := va_re ad (y10.2 a 0)) (C := RX9) (T := TX9) (N := 20) hx hb hts (mus hf_X9) hown hK hP a (wld_o ct ad G y10 hc hk (by decide)) rfl 0 (by decide) (hts (.fieldLink RX9 51 "VideoSuite$Work" "pic" "LVideoSuite$Picture;") (mu mw_422)) (fun _ h9 => h9) rfl dX9_clearMoves_33 ?_
    obtain ⟨b11, ho11, hc11, hk11, hF⟩ := dr_some hF
    refine W_st (st' := [.ref (ad b11)]) (by rw [va_some ho11]) ?_
    refine va_get (D := D) (ci := 4) (v := va_re ad (y10.2 b11 6)) (C := RX4) (T := TX4) (N := 18) hx hb hts (mus hf_X4) hown hK hP b11 (wld_o ct ad G y10 hc11 hk11 (by decide)) rfl 6 (by decide) (hts (.fieldLink RX9 86 "VideoSuite$Picture" "referenceId" "[I") (mu mw_1443)) (fun _ h9 => h9) rfl dX9_clearMoves_36 ?_
    refine lv_iload_n hx hb dX9_clearMoves_39 rfl (lv_at hl 0 rfl) ?_
    refine lv_iload_n hx hb dX9_clearMoves_40 rfl (lv_at hl 0 rfl) ?_
    refine lv_bipush (v := (16 : Int32)) hx hb dX9_clearMoves_41 (by decide) ?_
    refine lv_iadd hx hb dX9_clearMoves_43 ?_
    obtain ⟨x12, ex12, hF⟩ := ltt_some hF
    refine lv_topi (fun zx12 ezx12 => ?_)
    obtain rfl : x12 = zx12 := ex12.trans ezx12.symm
    refine lv_iconst (v := (0 : Int32)) hx hb dX9_clearMoves_44 (by decide) ?_
    obtain ⟨y13, hy13, hF⟩ := bnd_some hF
    have hf9 := wA_in hD hA9 hS
    refine va_callv (va_runS (As := [va_re ad (y10.2 b11 6), .int y7.2, .int x12, .int (0 : Int32)]) (rest := []) ⟨hx, hb, hml, hown, hts⟩ (kJ7_fill_fda19 l D ct ad Z G y10 H.size ((y10.2 b11 6)) y7.2 x12 ((0 : Int32)) y13 hy13) (va_cwS 4 hts gX9_clearMoves_J7_fill_fda19 rfl rfl rfl (by decide +kernel) ⟨Nat.le_of_ble_eq_true rfl, Nat.le_of_ble_eq_true rfl⟩) ⟨fun a U g mk q => by obtain ⟨q0, q1, qP, qK, qD, qZ, qN⟩ := q; exact ⟨q0, q1, qP, va_K.moved (u := U) (U := U.calling g mk a) (Vm.Alike.refl U.vm) qK, qD, sF.moved (u := U) (U := U.calling g mk a) (Vm.Alike.refl U.vm) qZ, nF.same rfl qN⟩, fun U hU hW => ⟨rfl, by rw [hU], by rw [hU]; exact hP, va_K.moved hW.alike hK, hD.weaken (fun _ _ _ _ => trivial), by rw [hU]; exact ((hZ.kept hS.2.1).narrow hf9).moved hW.alike, hN.warm hW⟩⟩ rfl rfl hl.1 rfl (lv_room (Nat.le_of_ble_eq_true rfl)) dX9_clearMoves_45 ⟨(Nat.zero_le _), (Nat.zero_le _)⟩) hS (fun q _ h => hf9 q h) hf9 (fun u t H locs ht hvm hw hB hz1 hk1 hS => ?_)
    obtain ⟨hP, hK9, hD9⟩ := hB
    rw [ht] at hP
    have hD := hD9.weaken (fun _ q _ h => hf9 q.1 h)
    refine lv_aload_n hx hb dX9_clearMoves_48 rfl (lv_at hl 2 rfl) ?_
    refine va_get (D := D) (ci := 9) (v := va_re ad (y13.2 a 0)) (C := RX9) (T := TX9) (N := 20) hx hb hts (mus hf_X9) hown hK hP a (wld_o ct ad G y13 hc hk (by decide)) rfl 0 (by decide) (hts (.fieldLink RX9 51 "VideoSuite$Work" "pic" "LVideoSuite$Picture;") (mu mw_422)) (fun _ h9 => h9) rfl dX9_clearMoves_49 ?_
    obtain ⟨b14, ho14, hc14, hk14, hF⟩ := dr_some hF
    refine W_st (st' := [.ref (ad b14)]) (by rw [va_some ho14]) ?_
    refine va_get (D := D) (ci := 4) (v := va_re ad (y13.2 b14 7)) (C := RX4) (T := TX4) (N := 18) hx hb hts (mus hf_X4) hown hK hP b14 (wld_o ct ad G y13 hc14 hk14 (by decide)) rfl 7 (by decide) (hts (.fieldLink RX9 89 "VideoSuite$Picture" "move" "[I") (mu mw_1447)) (fun _ h9 => h9) rfl dX9_clearMoves_52 ?_
    refine lv_iconst (v := (2 : Int32)) hx hb dX9_clearMoves_55 (by decide) ?_
    refine lv_iload_n hx hb dX9_clearMoves_56 rfl (lv_at hl 0 rfl) ?_
    refine lv_imul hx hb dX9_clearMoves_57 ?_
    obtain ⟨x15, ex15, hF⟩ := ltt_some hF
    refine lv_topi (fun zx15 ezx15 => ?_)
    obtain rfl : x15 = zx15 := ex15.trans ezx15.symm
    refine lv_iconst (v := (2 : Int32)) hx hb dX9_clearMoves_58 (by decide) ?_
    refine lv_iload_n hx hb dX9_clearMoves_59 rfl (lv_at hl 0 rfl) ?_
    refine lv_imul hx hb dX9_clearMoves_60 ?_
    obtain ⟨x16, ex16, hF⟩ := ltt_some hF
    refine lv_topi (fun zx16 ezx16 => ?_)
    obtain rfl : x16 = zx16 := ex16.trans ezx16.symm
    refine lv_bipush (v := (32 : Int32)) hx hb dX9_clearMoves_61 (by decide) ?_
    refine lv_iadd hx hb dX9_clearMoves_63 ?_
    obtain ⟨x17, ex17, hF⟩ := ltt_some hF
    refine lv_topi (fun zx17 ezx17 => ?_)
    obtain rfl : x17 = zx17 := ex17.trans ezx17.symm
    refine lv_iconst (v := (0 : Int32)) hx hb dX9_clearMoves_64 (by decide) ?_
    obtain ⟨y18, hy18, hF⟩ := bnd_some hF
    have hf9 := wA_in hD hA9 hS
    refine va_callv (va_runS (As := [va_re ad (y13.2 b14 7), .int x15, .int x17, .int (0 : Int32)]) (rest := []) ⟨hx, hb, hml, hown, hts⟩ (kJ7_fill_fda19 l D ct ad Z G y13 H.size ((y13.2 b14 7)) x15 x17 ((0 : Int32)) y18 hy18) (va_cwS 4 hts gX9_clearMoves_J7_fill_fda19 rfl rfl rfl (by decide +kernel) ⟨Nat.le_of_ble_eq_true rfl, Nat.le_of_ble_eq_true rfl⟩) ⟨fun a U g mk q => by obtain ⟨q0, q1, qP, qK, qD, qZ, qN⟩ := q; exact ⟨q0, q1, qP, va_K.moved (u := U) (U := U.calling g mk a) (Vm.Alike.refl U.vm) qK, qD, sF.moved (u := U) (U := U.calling g mk a) (Vm.Alike.refl U.vm) qZ, nF.same rfl qN⟩, fun U hU hW => ⟨rfl, by rw [hU], by rw [hU]; exact hP, va_K.moved hW.alike hK, hD.weaken (fun _ _ _ _ => trivial), by rw [hU]; exact ((hZ.kept hS.2.1).narrow hf9).moved hW.alike, hN.warm hW⟩⟩ rfl rfl hl.1 rfl (lv_room (Nat.le_of_ble_eq_true rfl)) dX9_clearMoves_65 ⟨(Nat.zero_le _), (Nat.zero_le _)⟩) hS (fun q _ h => hf9 q h) hf9 (fun u t H locs ht hvm hw hB hz1 hk1 hS => ?_)
    obtain ⟨hP, hK9, hD9⟩ := hB
    rw [ht] at hP
    have hD := hD9.weaken (fun _ q _ h => hf9 q.1 h)
    obtain ⟨x19, ex19, hF⟩ := ltt_some hF
    refine lv_iinc (v := x19) (lv' := [(2, .int x19), (3, .int y7.2), (0, .ref (ad a)), (1, .int p0)]) hx hb dX9_clearMoves_68 hl (k := 1) rfl (by rw [ex19]; rfl) (by decide) rfl (fun ls hl => ?_)
    refine lv_goto (tgt := 2) hx hb dX9_clearMoves_71 (by decide) ?_
    obtain rfl := Option.some.inj hF
    exact hwz4 _ _ _ hP hD hS (lv_sub hl [0, 2, 3] rfl)
set_option maxRecDepth 20000 in
theorem gX9_directByTime_X4_blocks : GoodIn wuX9_directByTime (wsV RX9 63 RX4 yX4_blocks wuX4_blocks) := gu_V mw_1882 mw_911 mw_912 mw_185 mw_913
set_option maxRecDepth 20000 in
set_option maxRecDepth 20000 in
theorem gX9_directByTime_X4_at : GoodIn wuX9_directByTime (va_wsS RX9 80 yX4_at wuX4_at) := gu_S mw_1795 mw_1796 mw_185 mw_1797
set_option maxRecDepth 20000 in
set_option maxRecDepth 20000 in
theorem gX9_directByTime_X9_timeBetween : GoodIn wuX9_directByTime (va_wsS RX9 222 yX9_timeBetween wuX9_timeBetween) := gu_S mw_1891 mw_1892 mw_171 mw_1893
set_option maxRecDepth 20000 in
set_option maxRecDepth 20000 in
theorem gX9_directByTime_X9_setQuarter : GoodIn wuX9_directByTime (wsV RX9 210 RX9 yX9_setQuarter wuX9_setQuarter) := gu_V mw_1898 mw_1900 mw_57 mw_171 mw_1901
set_option maxRecDepth 20000 in
theorem gX9_directByTime_X9_scaleBy : GoodIn wuX9_directByTime (va_wsS RX9 225 yX9_scaleBy wuX9_scaleBy) := gu_S mw_1894 mw_1895 mw_171 mw_1896
set_option maxRecDepth 20000 in
set_option maxRecDepth 20000 in
theorem gX9_directByTime_X9_entryOf : GoodIn wuX9_directByTime (wsV RX9 219 RX9 yX9_entryOf wuX9_entryOf) := gu_V mw_1887 mw_1889 mw_56 mw_171 mw_1890
set_option maxRecDepth 20000 in
set_option maxRecDepth 20000 in
theorem gX9_directByTime_X4_listOf : GoodIn wuX9_directByTime (wsV RX9 216 RX4 yX4_listOf wuX4_listOf) := gu_V mw_1883 mw_1884 mw_1885 mw_185 mw_1886
set_option maxRecDepth 20000 in
theorem dX9_directByTime_0 : decode cX9_directByTime 0 = .ok (.iconst 0, 1) := by decide +kernel
theorem dX9_directByTime_1 : decode cX9_directByTime 1 = .ok (.istore 4, 2) := by decide +kernel
theorem dX9_directByTime_3 : decode cX9_directByTime 3 = .ok (.iload 4, 2) := by decide +kernel
theorem dX9_directByTime_5 : decode cX9_directByTime 5 = .ok (.iconst 4, 1) := by decide +kernel
theorem dX9_directByTime_6 : decode cX9_directByTime 6 = .ok (.if_icmp .ge 295, 3) := by decide +kernel
theorem dX9_directByTime_9 : decode cX9_directByTime 9 = .ok (.iload_n 2, 1) := by decide +kernel
theorem dX9_directByTime_10 : decode cX9_directByTime 10 = .ok (.iload 4, 2) := by decide +kernel
theorem dX9_directByTime_12 : decode cX9_directByTime 12 = .ok (.ishr, 1) := by decide +kernel
theorem dX9_directByTime_13 : decode cX9_directByTime 13 = .ok (.iconst 1, 1) := by decide +kernel
theorem dX9_directByTime_14 : decode cX9_directByTime 14 = .ok (.iand, 1) := by decide +kernel
theorem dX9_directByTime_15 : decode cX9_directByTime 15 = .ok (.ifCond .ne 6, 3) := by decide +kernel
theorem dX9_directByTime_18 : decode cX9_directByTime 18 = .ok (.goto 277, 3) := by decide +kernel
theorem dX9_directByTime_21 : decode cX9_directByTime 21 = .ok (.bipush 16, 2) := by decide +kernel
theorem dX9_directByTime_23 : decode cX9_directByTime 23 = .ok (.iload_n 1, 1) := by decide +kernel
theorem dX9_directByTime_24 : decode cX9_directByTime 24 = .ok (.imul, 1) := by decide +kernel
theorem dX9_directByTime_25 : decode cX9_directByTime 25 = .ok (.iconst 5, 1) := by decide +kernel
theorem dX9_directByTime_26 : decode cX9_directByTime 26 = .ok (.iload 4, 2) := by decide +kernel
theorem dX9_directByTime_28 : decode cX9_directByTime 28 = .ok (.imul, 1) := by decide +kernel
theorem dX9_directByTime_29 : decode cX9_directByTime 29 = .ok (.iadd, 1) := by decide +kernel
theorem dX9_directByTime_30 : decode cX9_directByTime 30 = .ok (.istore 5, 2) := by decide +kernel
theorem dX9_directByTime_32 : decode cX9_directByTime 32 = .ok (.iload_n 1, 1) := by decide +kernel
theorem dX9_directByTime_33 : decode cX9_directByTime 33 = .ok (.aload_n 3, 1) := by decide +kernel
theorem dX9_directByTime_34 : decode cX9_directByTime 34 = .ok (.invokevirtual 63, 3) := by decide +kernel
theorem dX9_directByTime_37 : decode cX9_directByTime 37 = .ok (.if_icmp .ge 12, 3) := by decide +kernel
theorem dX9_directByTime_40 : decode cX9_directByTime 40 = .ok (.aload_n 3, 1) := by decide +kernel
theorem dX9_directByTime_41 : decode cX9_directByTime 41 = .ok (.iload 5, 2) := by decide +kernel
theorem dX9_directByTime_43 : decode cX9_directByTime 43 = .ok (.invokevirtual 216, 3) := by decide +kernel
theorem dX9_directByTime_46 : decode cX9_directByTime 46 = .ok (.goto 4, 3) := by decide +kernel
theorem dX9_directByTime_49 : decode cX9_directByTime 49 = .ok (.iconst (-1), 1) := by decide +kernel
theorem dX9_directByTime_50 : decode cX9_directByTime 50 = .ok (.istore 6, 2) := by decide +kernel
theorem dX9_directByTime_52 : decode cX9_directByTime 52 = .ok (.iload 6, 2) := by decide +kernel
theorem dX9_directByTime_54 : decode cX9_directByTime 54 = .ok (.ifCond .ge 7, 3) := by decide +kernel
theorem dX9_directByTime_57 : decode cX9_directByTime 57 = .ok (.iconst 0, 1) := by decide +kernel
theorem dX9_directByTime_58 : decode cX9_directByTime 58 = .ok (.goto 5, 3) := by decide +kernel
theorem dX9_directByTime_61 : decode cX9_directByTime 61 = .ok (.iload 6, 2) := by decide +kernel
theorem dX9_directByTime_63 : decode cX9_directByTime 63 = .ok (.iload 5, 2) := by decide +kernel
theorem dX9_directByTime_65 : decode cX9_directByTime 65 = .ok (.invokestatic 80, 3) := by decide +kernel
theorem dX9_directByTime_68 : decode cX9_directByTime 68 = .ok (.istore 7, 2) := by decide +kernel
theorem dX9_directByTime_70 : decode cX9_directByTime 70 = .ok (.iload 6, 2) := by decide +kernel
theorem dX9_directByTime_72 : decode cX9_directByTime 72 = .ok (.ifCond .ge 7, 3) := by decide +kernel
theorem dX9_directByTime_75 : decode cX9_directByTime 75 = .ok (.iconst 0, 1) := by decide +kernel
theorem dX9_directByTime_76 : decode cX9_directByTime 76 = .ok (.goto 14, 3) := by decide +kernel
theorem dX9_directByTime_79 : decode cX9_directByTime 79 = .ok (.aload_n 0, 1) := by decide +kernel
theorem dX9_directByTime_80 : decode cX9_directByTime 80 = .ok (.aload_n 3, 1) := by decide +kernel
theorem dX9_directByTime_81 : decode cX9_directByTime 81 = .ok (.getfield 86, 3) := by decide +kernel
theorem dX9_directByTime_84 : decode cX9_directByTime 84 = .ok (.iload 7, 2) := by decide +kernel
theorem dX9_directByTime_86 : decode cX9_directByTime 86 = .ok (.iaload, 1) := by decide +kernel
theorem dX9_directByTime_87 : decode cX9_directByTime 87 = .ok (.invokevirtual 219, 3) := by decide +kernel
theorem dX9_directByTime_90 : decode cX9_directByTime 90 = .ok (.istore 8, 2) := by decide +kernel
theorem dX9_directByTime_92 : decode cX9_directByTime 92 = .ok (.iload 8, 2) := by decide +kernel
theorem dX9_directByTime_94 : decode cX9_directByTime 94 = .ok (.ifCond .lt 13, 3) := by decide +kernel
theorem dX9_directByTime_97 : decode cX9_directByTime 97 = .ok (.aload_n 0, 1) := by decide +kernel
theorem dX9_directByTime_98 : decode cX9_directByTime 98 = .ok (.getfield 11, 3) := by decide +kernel
theorem dX9_directByTime_101 : decode cX9_directByTime 101 = .ok (.iload 8, 2) := by decide +kernel
theorem dX9_directByTime_103 : decode cX9_directByTime 103 = .ok (.aaload, 1) := by decide +kernel
theorem dX9_directByTime_104 : decode cX9_directByTime 104 = .ok (.ifnonnull 5, 3) := by decide +kernel
theorem dX9_directByTime_107 : decode cX9_directByTime 107 = .ok (.iconst 0, 1) := by decide +kernel
theorem dX9_directByTime_108 : decode cX9_directByTime 108 = .ok (.ireturn, 1) := by decide +kernel
theorem dX9_directByTime_109 : decode cX9_directByTime 109 = .ok (.iload 6, 2) := by decide +kernel
theorem dX9_directByTime_111 : decode cX9_directByTime 111 = .ok (.ifCond .ge 7, 3) := by decide +kernel
theorem dX9_directByTime_114 : decode cX9_directByTime 114 = .ok (.iconst 0, 1) := by decide +kernel
theorem dX9_directByTime_115 : decode cX9_directByTime 115 = .ok (.goto 12, 3) := by decide +kernel
theorem dX9_directByTime_118 : decode cX9_directByTime 118 = .ok (.aload_n 3, 1) := by decide +kernel
theorem dX9_directByTime_119 : decode cX9_directByTime 119 = .ok (.getfield 89, 3) := by decide +kernel
theorem dX9_directByTime_122 : decode cX9_directByTime 122 = .ok (.iconst 2, 1) := by decide +kernel
theorem dX9_directByTime_123 : decode cX9_directByTime 123 = .ok (.iload 7, 2) := by decide +kernel
theorem dX9_directByTime_125 : decode cX9_directByTime 125 = .ok (.imul, 1) := by decide +kernel
theorem dX9_directByTime_126 : decode cX9_directByTime 126 = .ok (.iaload, 1) := by decide +kernel
theorem dX9_directByTime_127 : decode cX9_directByTime 127 = .ok (.istore 9, 2) := by decide +kernel
theorem dX9_directByTime_129 : decode cX9_directByTime 129 = .ok (.iload 6, 2) := by decide +kernel
theorem dX9_directByTime_131 : decode cX9_directByTime 131 = .ok (.ifCond .ge 7, 3) := by decide +kernel
theorem dX9_directByTime_134 : decode cX9_directByTime 134 = .ok (.iconst 0, 1) := by decide +kernel
theorem dX9_directByTime_135 : decode cX9_directByTime 135 = .ok (.goto 14, 3) := by decide +kernel
theorem dX9_directByTime_138 : decode cX9_directByTime 138 = .ok (.aload_n 3, 1) := by decide +kernel
theorem dX9_directByTime_139 : decode cX9_directByTime 139 = .ok (.getfield 89, 3) := by decide +kernel
theorem dX9_directByTime_142 : decode cX9_directByTime 142 = .ok (.iconst 2, 1) := by decide +kernel
theorem dX9_directByTime_143 : decode cX9_directByTime 143 = .ok (.iload 7, 2) := by decide +kernel
theorem dX9_directByTime_145 : decode cX9_directByTime 145 = .ok (.imul, 1) := by decide +kernel
theorem dX9_directByTime_146 : decode cX9_directByTime 146 = .ok (.iconst 1, 1) := by decide +kernel
theorem dX9_directByTime_147 : decode cX9_directByTime 147 = .ok (.iadd, 1) := by decide +kernel
theorem dX9_directByTime_148 : decode cX9_directByTime 148 = .ok (.iaload, 1) := by decide +kernel
theorem dX9_directByTime_149 : decode cX9_directByTime 149 = .ok (.istore 10, 2) := by decide +kernel
theorem dX9_directByTime_151 : decode cX9_directByTime 151 = .ok (.aload_n 0, 1) := by decide +kernel
theorem dX9_directByTime_152 : decode cX9_directByTime 152 = .ok (.getfield 11, 3) := by decide +kernel
theorem dX9_directByTime_155 : decode cX9_directByTime 155 = .ok (.iload 8, 2) := by decide +kernel
theorem dX9_directByTime_157 : decode cX9_directByTime 157 = .ok (.aaload, 1) := by decide +kernel
theorem dX9_directByTime_158 : decode cX9_directByTime 158 = .ok (.getfield 105, 3) := by decide +kernel
theorem dX9_directByTime_161 : decode cX9_directByTime 161 = .ok (.aload_n 3, 1) := by decide +kernel
theorem dX9_directByTime_162 : decode cX9_directByTime 162 = .ok (.getfield 105, 3) := by decide +kernel
theorem dX9_directByTime_165 : decode cX9_directByTime 165 = .ok (.invokestatic 222, 3) := by decide +kernel
theorem dX9_directByTime_168 : decode cX9_directByTime 168 = .ok (.istore 11, 2) := by decide +kernel
theorem dX9_directByTime_170 : decode cX9_directByTime 170 = .ok (.aload_n 0, 1) := by decide +kernel
theorem dX9_directByTime_171 : decode cX9_directByTime 171 = .ok (.getfield 11, 3) := by decide +kernel
theorem dX9_directByTime_174 : decode cX9_directByTime 174 = .ok (.iload 8, 2) := by decide +kernel
theorem dX9_directByTime_176 : decode cX9_directByTime 176 = .ok (.aaload, 1) := by decide +kernel
theorem dX9_directByTime_177 : decode cX9_directByTime 177 = .ok (.getfield 213, 3) := by decide +kernel
theorem dX9_directByTime_180 : decode cX9_directByTime 180 = .ok (.iconst 2, 1) := by decide +kernel
theorem dX9_directByTime_181 : decode cX9_directByTime 181 = .ok (.if_icmp .eq 8, 3) := by decide +kernel
theorem dX9_directByTime_184 : decode cX9_directByTime 184 = .ok (.iload 11, 2) := by decide +kernel
theorem dX9_directByTime_186 : decode cX9_directByTime 186 = .ok (.ifCond .ne 7, 3) := by decide +kernel
theorem dX9_directByTime_189 : decode cX9_directByTime 189 = .ok (.iconst 1, 1) := by decide +kernel
theorem dX9_directByTime_190 : decode cX9_directByTime 190 = .ok (.goto 4, 3) := by decide +kernel
theorem dX9_directByTime_193 : decode cX9_directByTime 193 = .ok (.iconst 0, 1) := by decide +kernel
theorem dX9_directByTime_194 : decode cX9_directByTime 194 = .ok (.istore 12, 2) := by decide +kernel
theorem dX9_directByTime_196 : decode cX9_directByTime 196 = .ok (.iload 12, 2) := by decide +kernel
theorem dX9_directByTime_198 : decode cX9_directByTime 198 = .ok (.ifCond .eq 9, 3) := by decide +kernel
theorem dX9_directByTime_201 : decode cX9_directByTime 201 = .ok (.sipush 256, 3) := by decide +kernel
theorem dX9_directByTime_204 : decode cX9_directByTime 204 = .ok (.goto 28, 3) := by decide +kernel
theorem dX9_directByTime_207 : decode cX9_directByTime 207 = .ok (.aload_n 0, 1) := by decide +kernel
theorem dX9_directByTime_208 : decode cX9_directByTime 208 = .ok (.getfield 11, 3) := by decide +kernel
theorem dX9_directByTime_211 : decode cX9_directByTime 211 = .ok (.iload 8, 2) := by decide +kernel
theorem dX9_directByTime_213 : decode cX9_directByTime 213 = .ok (.aaload, 1) := by decide +kernel
theorem dX9_directByTime_214 : decode cX9_directByTime 214 = .ok (.getfield 105, 3) := by decide +kernel
theorem dX9_directByTime_217 : decode cX9_directByTime 217 = .ok (.aload_n 0, 1) := by decide +kernel
theorem dX9_directByTime_218 : decode cX9_directByTime 218 = .ok (.getfield 51, 3) := by decide +kernel
theorem dX9_directByTime_221 : decode cX9_directByTime 221 = .ok (.getfield 105, 3) := by decide +kernel
theorem dX9_directByTime_224 : decode cX9_directByTime 224 = .ok (.invokestatic 222, 3) := by decide +kernel
theorem dX9_directByTime_227 : decode cX9_directByTime 227 = .ok (.iload 11, 2) := by decide +kernel
theorem dX9_directByTime_229 : decode cX9_directByTime 229 = .ok (.invokestatic 225, 3) := by decide +kernel
theorem dX9_directByTime_232 : decode cX9_directByTime 232 = .ok (.istore 13, 2) := by decide +kernel
theorem dX9_directByTime_234 : decode cX9_directByTime 234 = .ok (.iload 13, 2) := by decide +kernel
theorem dX9_directByTime_236 : decode cX9_directByTime 236 = .ok (.iload 9, 2) := by decide +kernel
theorem dX9_directByTime_238 : decode cX9_directByTime 238 = .ok (.imul, 1) := by decide +kernel
theorem dX9_directByTime_239 : decode cX9_directByTime 239 = .ok (.sipush 128, 3) := by decide +kernel
theorem dX9_directByTime_242 : decode cX9_directByTime 242 = .ok (.iadd, 1) := by decide +kernel
theorem dX9_directByTime_243 : decode cX9_directByTime 243 = .ok (.bipush 8, 2) := by decide +kernel
theorem dX9_directByTime_245 : decode cX9_directByTime 245 = .ok (.ishr, 1) := by decide +kernel
theorem dX9_directByTime_246 : decode cX9_directByTime 246 = .ok (.istore 14, 2) := by decide +kernel
theorem dX9_directByTime_248 : decode cX9_directByTime 248 = .ok (.iload 13, 2) := by decide +kernel
theorem dX9_directByTime_250 : decode cX9_directByTime 250 = .ok (.iload 10, 2) := by decide +kernel
theorem dX9_directByTime_252 : decode cX9_directByTime 252 = .ok (.imul, 1) := by decide +kernel
theorem dX9_directByTime_253 : decode cX9_directByTime 253 = .ok (.sipush 128, 3) := by decide +kernel
theorem dX9_directByTime_256 : decode cX9_directByTime 256 = .ok (.iadd, 1) := by decide +kernel
theorem dX9_directByTime_257 : decode cX9_directByTime 257 = .ok (.bipush 8, 2) := by decide +kernel
theorem dX9_directByTime_259 : decode cX9_directByTime 259 = .ok (.ishr, 1) := by decide +kernel
theorem dX9_directByTime_260 : decode cX9_directByTime 260 = .ok (.istore 15, 2) := by decide +kernel
theorem dX9_directByTime_262 : decode cX9_directByTime 262 = .ok (.aload_n 0, 1) := by decide +kernel
theorem dX9_directByTime_263 : decode cX9_directByTime 263 = .ok (.iload_n 1, 1) := by decide +kernel
theorem dX9_directByTime_264 : decode cX9_directByTime 264 = .ok (.iconst 0, 1) := by decide +kernel
theorem dX9_directByTime_265 : decode cX9_directByTime 265 = .ok (.iload 4, 2) := by decide +kernel
theorem dX9_directByTime_267 : decode cX9_directByTime 267 = .ok (.iload 8, 2) := by decide +kernel
theorem dX9_directByTime_269 : decode cX9_directByTime 269 = .ok (.iload 14, 2) := by decide +kernel
theorem dX9_directByTime_271 : decode cX9_directByTime 271 = .ok (.iload 15, 2) := by decide +kernel
theorem dX9_directByTime_273 : decode cX9_directByTime 273 = .ok (.invokevirtual 210, 3) := by decide +kernel
theorem dX9_directByTime_276 : decode cX9_directByTime 276 = .ok (.aload_n 0, 1) := by decide +kernel
theorem dX9_directByTime_277 : decode cX9_directByTime 277 = .ok (.iload_n 1, 1) := by decide +kernel
theorem dX9_directByTime_278 : decode cX9_directByTime 278 = .ok (.iconst 1, 1) := by decide +kernel
theorem dX9_directByTime_279 : decode cX9_directByTime 279 = .ok (.iload 4, 2) := by decide +kernel
theorem dX9_directByTime_281 : decode cX9_directByTime 281 = .ok (.iconst 0, 1) := by decide +kernel
theorem dX9_directByTime_282 : decode cX9_directByTime 282 = .ok (.iload 14, 2) := by decide +kernel
theorem dX9_directByTime_284 : decode cX9_directByTime 284 = .ok (.iload 9, 2) := by decide +kernel
theorem dX9_directByTime_286 : decode cX9_directByTime 286 = .ok (.isub, 1) := by decide +kernel
theorem dX9_directByTime_287 : decode cX9_directByTime 287 = .ok (.iload 15, 2) := by decide +kernel
theorem dX9_directByTime_289 : decode cX9_directByTime 289 = .ok (.iload 10, 2) := by decide +kernel
theorem dX9_directByTime_291 : decode cX9_directByTime 291 = .ok (.isub, 1) := by decide +kernel
theorem dX9_directByTime_292 : decode cX9_directByTime 292 = .ok (.invokevirtual 210, 3) := by decide +kernel
theorem dX9_directByTime_295 : decode cX9_directByTime 295 = .ok (.iinc 4 1, 3) := by decide +kernel
theorem dX9_directByTime_298 : decode cX9_directByTime 298 = .ok (.goto (-295), 3) := by decide +kernel
theorem dX9_directByTime_301 : decode cX9_directByTime 301 = .ok (.iconst 1, 1) := by decide +kernel
theorem dX9_directByTime_302 : decode cX9_directByTime 302 = .ok (.ireturn, 1) := by decide +kernel
def FX9_directByTime (G : GG) (M : DD) (a : Nat) (p0 : Int32) (p1 : Int32) (p2 : Option Nat) : Option (DD × Int32) :=
  bnd (itr (fun (s2 : Int32 × DD) => ((if ((4 : Int32)) ≤ s2.1 then (some (.inr (.inl (s2.1, s2.2)))) else
  (ltt ((p1 >>> (s2.1 &&& 31))) fun x6 =>
  ltt ((x6 &&& ((1 : Int32)))) fun x7 =>
  if x7 = ((0 : Int32)) then (ltt (s2.1 + (1 : Int32)) fun x68 =>
  some (.inl (x68, s2.2))) else
  (ltt ((((16 : Int32)) * p0)) fun x9 =>
  ltt ((((5 : Int32)) * s2.1)) fun x10 =>
  ltt ((x9 + x10)) fun x11 =>
  dr G 4 p2 fun b12 =>
  bnd (FX4_blocks G s2.2 b12) fun y13 =>
  bnd (if y13.2 ≤ p0 then (some ((-1 : Int32), y13.1)) else
  (bnd (FX4_listOf G y13.1 b12 x11) fun y67 =>
  some (y67.2, y67.1))) fun (y14 : Int32 × DD) =>
  bnd (if ((0 : Int32)) ≤ y14.1 then (some (y14.1)) else
  (some ((0 : Int32)))) fun (y15 : Int32) =>
  bnd (FX4_at G y14.2 y15 x11) fun y16 =>
  bnd (if ((0 : Int32)) ≤ y14.1 then (dr G 13 ((y16.1.2 b12 6)) fun b62 =>
  chk (¬ (y16.2 < 0 ∨ G.2.2 b62 ≤ y16.2.toNatClampNeg)) <|
  ltt (y16.1.1 b62 y16.2.toNatClampNeg) fun x63 =>
  bnd (FX9_entryOf G y16.1 a x63) fun y64 =>
  some (y64.2, y64.1)) else
  (some ((0 : Int32), y16.1))) fun (y17 : Int32 × DD) =>
  if y17.1 < ((0 : Int32)) then (chk (((0 : Int32)) = 0 ∨ ((0 : Int32)) = 1) <|
  some (.inr (.inr (y17.2, (0 : Int32))))) else
  (dr G 14 ((y17.2.2 a 3)) fun b19 =>
  chk (¬ (y17.1 < 0 ∨ G.2.2 b19 ≤ y17.1.toNatClampNeg)) <|
  if ((y17.2.2 b19 y17.1.toNatClampNeg)) = none then (chk (((0 : Int32)) = 0 ∨ ((0 : Int32)) = 1) <|
  some (.inr (.inr (y17.2, (0 : Int32))))) else
  (bnd (if ((0 : Int32)) ≤ y14.1 then (ltt ((((2 : Int32)) * y16.2)) fun x58 =>
  dr G 13 ((y17.2.2 b12 7)) fun b59 =>
  chk (¬ (x58 < 0 ∨ G.2.2 b59 ≤ x58.toNatClampNeg)) <|
  ltt (y17.2.1 b59 x58.toNatClampNeg) fun x60 =>
  some (x60)) else
  (some ((0 : Int32)))) fun (y21 : Int32) =>
  bnd (if ((0 : Int32)) ≤ y14.1 then (ltt ((((2 : Int32)) * y16.2)) fun x53 =>
  ltt ((x53 + ((1 : Int32)))) fun x54 =>
  dr G 13 ((y17.2.2 b12 7)) fun b55 =>
  chk (¬ (x54 < 0 ∨ G.2.2 b55 ≤ x54.toNatClampNeg)) <|
  ltt (y17.2.1 b55 x54.toNatClampNeg) fun x56 =>
  some (x56)) else
  (some ((0 : Int32)))) fun (y22 : Int32) =>
  chk (¬ (y17.1 < 0 ∨ G.2.2 b19 ≤ y17.1.toNatClampNeg)) <|
  dr G 4 ((y17.2.2 b19 y17.1.toNatClampNeg)) fun b23 =>
  ltt (y17.2.1 b23 9) fun x24 =>
  ltt (y17.2.1 b12 9) fun x25 =>
  bnd (FX9_timeBetween G y17.2 x24 x25) fun y26 =>
  dr G 14 ((y26.1.2 a 3)) fun b27 =>
  chk (¬ (y17.1 < 0 ∨ G.2.2 b27 ≤ y17.1.toNatClampNeg)) <|
  dr G 4 ((y26.1.2 b27 y17.1.toNatClampNeg)) fun b28 =>
  ltt (y26.1.1 b28 10) fun x29 =>
  bnd (if x29 = ((2 : Int32)) then (some ((1 : Int32))) else
  (bnd (if y26.2 = ((0 : Int32)) then (some ((1 : Int32))) else
  (some ((0 : Int32)))) fun (y50 : Int32) =>
  some (y50))) fun (y30 : Int32) =>
  bnd (if y30 = ((0 : Int32)) then (chk (¬ (y17.1 < 0 ∨ G.2.2 b27 ≤ y17.1.toNatClampNeg)) <|
  ltt (y26.1.1 b28 9) fun x44 =>
  dr G 4 ((y26.1.2 a 0)) fun b45 =>
  ltt (y26.1.1 b45 9) fun x46 =>
  bnd (FX9_timeBetween G y26.1 x44 x46) fun y47 =>
  bnd (FX9_scaleBy G y47.1 y47.2 y26.2) fun y48 =>
  some (y48.2, y48.1)) else
  (some ((256 : Int32), y26.1))) fun (y31 : Int32 × DD) =>
  ltt ((y31.1 * y21)) fun x32 =>
  ltt ((x32 + ((128 : Int32)))) fun x33 =>
  ltt ((x33 >>> (((8 : Int32)) &&& 31))) fun x34 =>
  ltt ((y31.1 * y22)) fun x35 =>
  ltt ((x35 + ((128 : Int32)))) fun x36 =>
  ltt ((x36 >>> (((8 : Int32)) &&& 31))) fun x37 =>
  bnd (FX9_setQuarter G y31.2 a p0 ((0 : Int32)) s2.1 y17.1 x34 x37) fun y38 =>
  ltt ((x34 - y21)) fun x39 =>
  ltt ((x37 - y22)) fun x40 =>
  bnd (FX9_setQuarter G y38 a p0 ((1 : Int32)) s2.1 ((0 : Int32)) x39 x40) fun y41 =>
  ltt (s2.1 + (1 : Int32)) fun x42 =>
  some (.inl (x42, y41))))))) : Option ((Int32 × DD) ⊕ ((Int32 × DD) ⊕ (DD × Int32))))) 1000000 ((0 : Int32), M)) fun (y1 : (Int32 × DD) ⊕ (DD × Int32)) =>
  sel y1 (fun (z1k : Int32 × DD) =>
  chk (((1 : Int32)) = 0 ∨ ((1 : Int32)) = 1) <|
  some (z1k.2, (1 : Int32))) fun r9 => some r9
set_option maxHeartbeats 4000000 in
set_option maxRecDepth 100000 in
theorem kX9_directByTime (l : Launch) (D : va_G) (ct : CT) (ad : Nat → Nat) (Z : Nat → Nat) (G : GG) (M : DD) (sz : Nat) (a : Nat) (p0 : Int32) (p1 : Int32) (p2 : Option Nat) (y : DD × Int32) (hc : a < G.1) (hk : G.2.1 a = 9) (hF : FX9_directByTime G M a p0 p1 p2 = some y) : Met l yX9_directByTime wuX9_directByTime ({ frames := 2, cells := 0, slots := 0, locals := 44 }) (va_Pc [.ref (ad a), .int p0, .int p1, va_re ad p2] (kB D ct ad Z G M sz)) (va_Qi (fun (q : Int32) (_ : Unit) => q = y.2) (fun _ t => kE D ct ad G (wA ad G sz) y.1 t) (wA ad G sz)) 0 0 (wA ad G sz) := by
  refine Met.ofW (cc := cX9_directByTime) (maxL := 16) (ret := (some .boolean)) (by decide) rfl ?_
  intro p e s m args below meth c s₁ B hml hv
  obtain ⟨rfl, hsz, hP, hK, hD0, hZ, hN⟩ := hv
  have hx := B.exec
  have hb := B.bytes
  have hr := B.returns
  have hts := atoms_spec (ws := wuX9_directByTime) B.pre
  have hown : s.vm.findClass RX9 = some m.cls := findClass_of_methodNamed B.named
  have hlocks := B.notSynchronized
  subst hsz
  have hD := wD_self (sz := s.heap.size) hD0
  have hA9 : ∀ q, s.heap.size ≤ q → wA ad G s.heap.size q := fun q h => Or.inr h
  generalize hAe : wA ad G s.heap.size = A at hD hA9 hZ ⊢
  have hS : va_S A s.heap s.heap [] := va_S.rf
  have hl := lv_entry ([.ref (ad a), .int p0, .int p1, va_re ad p2]) (n := 16) (by cases p2 <;> exact Nat.le_of_ble_eq_true rfl)
  rw [lg_entry_eq]
  generalize (lg_sl ([.ref (ad a), .int p0, .int p1, va_re ad p2]) ++ List.replicate (16 - (lg_sl ([.ref (ad a), .int p0, .int p1, va_re ad p2])).length) Slot.unset).toArray = ls at hl ⊢
  have hl : lv_has ls 16 [(0, .ref (ad a)), (1, .int p0), (2, .int p1), (3, va_re ad p2)] := by have e9 : lv_args 0 [.ref (ad a), .int p0, .int p1, va_re ad p2] = [(0, .ref (ad a)), (1, .int p0), (2, .int p1), (3, va_re ad p2)] := (by cases p2 <;> rfl); rw [e9] at hl; exact hl
  unfold FX9_directByTime at hF
  refine lv_iconst (v := (0 : Int32)) hx hb dX9_directByTime_0 (by decide) ?_
  refine lv_istore (lv' := [(4, .int (0 : Int32)), (0, .ref (ad a)), (1, .int p0), (2, .int p1), (3, va_re ad p2)]) hx hb dX9_directByTime_1 hl (by decide) (by generalize p2 = o9; cases o9 <;> rfl) (fun ls hl => ?_)
  obtain ⟨y1, hy1, hF⟩ := bnd_some hF
  have K1 : ∀ z1k : Int32 × DD, y1 = .inl z1k → ∀ (H : Heap) (locs : List Loc) (ls : Array Slot), va_P D classes (wld ct ad G z1k.2) H → va_D A (wld ct ad G z1k.2) → va_S A s.heap H locs → lv_has ls 16 [(4, .int z1k.1), (0, .ref (ad a)), (1, .int p0), (2, .int p1), (3, va_re ad p2)] → W p l e (headSpec wuX9_directByTime ({ frames := 2, cells := 0, slots := 0, locals := 44 })).room s m ([.ref (ad a), .int p0, .int p1, va_re ad p2] : List Value).toArray below meth c H locs 0 0 (MQ below (va_Qi (fun (q : Int32) (_ : Unit) => q = y.2) (fun _ t => kE D ct ad G A y.1 t) A) ([.ref (ad a), .int p0, .int p1, va_re ad p2] : List Value).toArray s 0 0 A) (F0 m 301 ls []) := by
    intro z1k hz1 H locs ls hP hD hS hl
    have hF := sel_inl (hz1 ▸ hF)
    refine lv_iconst (v := (1 : Int32)) hx hb dX9_directByTime_301 (by decide) ?_
    obtain ⟨hz9, hF⟩ := chk_some hF
    obtain rfl := Option.some.inj hF
    exact W.zret (v := (1 : Int32)) (ty := .boolean) hx hb hr (nar_z hz9).1 (fun t ht hW => ⟨⟨_, (), rfl, rfl, ⟨by rw [ht]; exact hP, va_K.moved hW.alike hK, hD⟩⟩, hS.F ht⟩) hS.2.2 dX9_directByTime_302
  have hR1 := hF
  clear hF
  refine itr_rule (fun (s2 : Int32 × DD) => ∀ (H : Heap) (locs : List Loc) (ls : Array Slot), va_P D classes (wld ct ad G s2.2) H → va_D A (wld ct ad G s2.2) → va_S A s.heap H locs → lv_has ls 16 [(4, .int s2.1), (0, .ref (ad a)), (1, .int p0), (2, .int p1), (3, va_re ad p2)] → W p l e (headSpec wuX9_directByTime ({ frames := 2, cells := 0, slots := 0, locals := 44 })).room s m ([.ref (ad a), .int p0, .int p1, va_re ad p2] : List Value).toArray below meth c H locs 0 0 (MQ below (va_Qi (fun (q : Int32) (_ : Unit) => q = y.2) (fun _ t => kE D ct ad G A y.1 t) A) ([.ref (ad a), .int p0, .int p1, va_re ad p2] : List Value).toArray s 0 0 A) (F0 m 3 ls [])) ?_ _ _ hy1 _ _ _ hP hD hS (lv_sub hl [0, 1, 2, 3, 4] rfl)
  rintro s2 ⟨z4, hF, hwz4⟩ H locs ls hP hD hS hl
  try dsimp only at hF
  refine lv_iload hx hb dX9_directByTime_3 (lv_at hl 0 rfl) ?_
  refine lv_iconst (v := (4 : Int32)) hx hb dX9_directByTime_5 (by decide) ?_
  refine lv_icmp_ge (tgt := 301) hx hb dX9_directByTime_6 (by decide) (fun c5 => ?_) (fun c5 => ?_)
  · rw [if_pos c5] at hF
    obtain rfl := Option.some.inj hF
    exact K1 _ hwz4.symm _ _ _ hP hD hS (lv_sub hl [0, 1, 2, 3, 4] rfl)
  · rw [if_neg c5] at hF
    refine lv_iload_n hx hb dX9_directByTime_9 rfl (lv_at hl 3 rfl) ?_
    refine lv_iload hx hb dX9_directByTime_10 (lv_at hl 0 rfl) ?_
    refine lv_ishr hx hb dX9_directByTime_12 ?_
    obtain ⟨x6, ex6, hF⟩ := ltt_some hF
    refine lv_topi (fun zx6 ezx6 => ?_)
    obtain rfl : x6 = zx6 := ex6.trans ezx6.symm
    refine lv_iconst (v := (1 : Int32)) hx hb dX9_directByTime_13 (by decide) ?_
    refine lv_iand hx hb dX9_directByTime_14 ?_
    obtain ⟨x7, ex7, hF⟩ := ltt_some hF
    refine lv_topi (fun zx7 ezx7 => ?_)
    obtain rfl : x7 = zx7 := ex7.trans ezx7.symm
    refine lv_if_ne (tgt := 21) hx hb dX9_directByTime_15 (by decide) (fun c8 => ?_) (fun c8 => ?_)
    · rw [if_neg c8] at hF
      refine lv_bipush (v := (16 : Int32)) hx hb dX9_directByTime_21 (by decide) ?_
      refine lv_iload_n hx hb dX9_directByTime_23 rfl (lv_at hl 2 rfl) ?_
      refine lv_imul hx hb dX9_directByTime_24 ?_
      obtain ⟨x9, ex9, hF⟩ := ltt_some hF
      refine lv_topi (fun zx9 ezx9 => ?_)
      obtain rfl : x9 = zx9 := ex9.trans ezx9.symm
      refine lv_iconst (v := (5 : Int32)) hx hb dX9_directByTime_25 (by decide) ?_
      refine lv_iload hx hb dX9_directByTime_26 (lv_at hl 0 rfl) ?_
      refine lv_imul hx hb dX9_directByTime_28 ?_
      obtain ⟨x10, ex10, hF⟩ := ltt_some hF
      refine lv_topi (fun zx10 ezx10 => ?_)
      obtain rfl : x10 = zx10 := ex10.trans ezx10.symm
      refine lv_iadd hx hb dX9_directByTime_29 ?_
      obtain ⟨x11, ex11, hF⟩ := ltt_some hF
      refine lv_topi (fun zx11 ezx11 => ?_)
      obtain rfl : x11 = zx11 := ex11.trans ezx11.symm
      refine lv_istore (lv' := [(5, .int x11), (4, .int s2.1), (0, .ref (ad a)), (1, .int p0), (2, .int p1), (3, va_re ad p2)]) hx hb dX9_directByTime_30 hl (by decide) rfl (fun ls hl => ?_)
      refine lv_iload_n hx hb dX9_directByTime_32 rfl (lv_at hl 3 rfl) ?_
      refine lv_aloadq_n hx hb dX9_directByTime_33 rfl (lv_at hl 5 rfl) ?_
      obtain ⟨b12, ho12, hc12, hk12, hF⟩ := dr_some hF
      refine W_st (st' := [.ref (ad b12), .int p0]) (by rw [va_some ho12]) ?_
      obtain ⟨y13, hy13, hF⟩ := bnd_some hF
      have hf9 := wA_in hD hA9 hS
      refine va_calli (va_runV (As := []) (rest := [.int p0]) ⟨hx, hb, hml, hown, hts⟩ (kX4_blocks l D ct ad Z G s2.2 H.size b12 y13 hc12 hk12 hy13) (cwV 0 hts gX9_directByTime_X4_blocks rfl rfl rfl (by decide +kernel) ⟨Nat.le_of_ble_eq_true rfl, Nat.le_of_ble_eq_true rfl⟩) ⟨fun a U g mk q => by obtain ⟨q0, q1, qP, qK, qD, qZ, qN⟩ := q; exact ⟨q0, q1, qP, va_K.moved (u := U) (U := U.calling g mk a) (Vm.Alike.refl U.vm) qK, qD, sF.moved (u := U) (U := U.calling g mk a) (Vm.Alike.refl U.vm) qZ, nF.same rfl qN⟩, va_recv hK hP (ci := 4) (q0 := b12) rfl (wld_o ct ad G s2.2 hc12 hk12 (by decide)), fun U hU hW => ⟨rfl, by rw [hU], by rw [hU]; exact hP, va_K.moved hW.alike hK, hD.weaken (fun _ _ _ _ => trivial), by rw [hU]; exact ((hZ.kept hS.2.1).narrow hf9).moved hW.alike, hN.warm hW⟩⟩ rfl rfl hl.1 rfl (lv_room (Nat.le_of_ble_eq_true rfl)) dX9_directByTime_34 ⟨(Nat.zero_le _), (Nat.zero_le _)⟩) hS (fun q _ h => hf9 q h) hf9 (fun r u t H locs ht hvm hw hB hz1 hk1 hS => ?_)
      obtain ⟨hP, hK9, hD9⟩ := hB
      rw [ht] at hP
      try dsimp only at hw
      subst hw
      have hD := hD9.weaken (fun _ q _ h => hf9 q.1 h)
      obtain ⟨y14, hy14, hF⟩ := bnd_some hF
      have J14 : ∀ (H : Heap) (locs : List Loc) (ls : Array Slot), va_P D classes (wld ct ad G y14.2) H → va_D A (wld ct ad G y14.2) → va_S A s.heap H locs → lv_has ls 16 [(5, .int x11), (4, .int s2.1), (0, .ref (ad a)), (1, .int p0), (2, .int p1), (3, va_re ad p2)] → W p l e (headSpec wuX9_directByTime ({ frames := 2, cells := 0, slots := 0, locals := 44 })).room s m ([.ref (ad a), .int p0, .int p1, va_re ad p2] : List Value).toArray below meth c H locs 0 0 (MQ below (va_Qi (fun (q : Int32) (_ : Unit) => q = y.2) (fun _ t => kE D ct ad G A y.1 t) A) ([.ref (ad a), .int p0, .int p1, va_re ad p2] : List Value).toArray s 0 0 A) (F0 m 50 ls [.int y14.1]) := by
        intro H locs ls hP hD hS hl
        refine lv_istore (lv' := [(6, .int y14.1), (5, .int x11), (4, .int s2.1), (0, .ref (ad a)), (1, .int p0), (2, .int p1), (3, va_re ad p2)]) hx hb dX9_directByTime_50 hl (by decide) rfl (fun ls hl => ?_)
        refine lv_iload hx hb dX9_directByTime_52 (lv_at hl 0 rfl) ?_
        obtain ⟨y15, hy15, hF⟩ := bnd_some hF
        have J15 : ∀ (H : Heap) (locs : List Loc) (ls : Array Slot), va_P D classes (wld ct ad G y14.2) H → va_D A (wld ct ad G y14.2) → va_S A s.heap H locs → lv_has ls 16 [(6, .int y14.1), (5, .int x11), (4, .int s2.1), (0, .ref (ad a)), (1, .int p0), (2, .int p1), (3, va_re ad p2)] → W p l e (headSpec wuX9_directByTime ({ frames := 2, cells := 0, slots := 0, locals := 44 })).room s m ([.ref (ad a), .int p0, .int p1, va_re ad p2] : List Value).toArray below meth c H locs 0 0 (MQ below (va_Qi (fun (q : Int32) (_ : Unit) => q = y.2) (fun _ t => kE D ct ad G A y.1 t) A) ([.ref (ad a), .int p0, .int p1, va_re ad p2] : List Value).toArray s 0 0 A) (F0 m 63 ls [.int y15]) := by
          intro H locs ls hP hD hS hl
          refine lv_iload hx hb dX9_directByTime_63 (lv_at hl 1 rfl) ?_
          obtain ⟨y16, hy16, hF⟩ := bnd_some hF
          have hf9 := wA_in hD hA9 hS
          refine va_calli (va_runS (As := [.int y15, .int x11]) (rest := []) ⟨hx, hb, hml, hown, hts⟩ (kX4_at l D ct ad Z G y14.2 H.size y15 x11 y16 hy16) (va_cwS 2 hts gX9_directByTime_X4_at rfl rfl rfl (by decide +kernel) ⟨Nat.le_of_ble_eq_true rfl, Nat.le_of_ble_eq_true rfl⟩) ⟨fun a U g mk q => by obtain ⟨q0, q1, qP, qK, qD, qZ, qN⟩ := q; exact ⟨q0, q1, qP, va_K.moved (u := U) (U := U.calling g mk a) (Vm.Alike.refl U.vm) qK, qD, sF.moved (u := U) (U := U.calling g mk a) (Vm.Alike.refl U.vm) qZ, nF.same rfl qN⟩, fun U hU hW => ⟨rfl, by rw [hU], by rw [hU]; exact hP, va_K.moved hW.alike hK, hD.weaken (fun _ _ _ _ => trivial), by rw [hU]; exact ((hZ.kept hS.2.1).narrow hf9).moved hW.alike, hN.warm hW⟩⟩ rfl rfl hl.1 rfl (lv_room (Nat.le_of_ble_eq_true rfl)) dX9_directByTime_65 ⟨(Nat.zero_le _), (Nat.zero_le _)⟩) hS (fun q _ h => hf9 q h) hf9 (fun r u t H locs ht hvm hw hB hz1 hk1 hS => ?_)
          obtain ⟨hP, hK9, hD9⟩ := hB
          rw [ht] at hP
          try dsimp only at hw
          subst hw
          have hD := hD9.weaken (fun _ q _ h => hf9 q.1 h)
          refine lv_istore (lv' := [(7, .int y16.2), (6, .int y14.1), (5, .int x11), (4, .int s2.1), (0, .ref (ad a)), (1, .int p0), (2, .int p1), (3, va_re ad p2)]) hx hb dX9_directByTime_68 hl (by decide) rfl (fun ls hl => ?_)
          refine lv_iload hx hb dX9_directByTime_70 (lv_at hl 1 rfl) ?_
          obtain ⟨y17, hy17, hF⟩ := bnd_some hF
          have J17 : ∀ (H : Heap) (locs : List Loc) (ls : Array Slot), va_P D classes (wld ct ad G y17.2) H → va_D A (wld ct ad G y17.2) → va_S A s.heap H locs → lv_has ls 16 [(7, .int y16.2), (6, .int y14.1), (5, .int x11), (4, .int s2.1), (0, .ref (ad a)), (1, .int p0), (2, .int p1), (3, va_re ad p2)] → W p l e (headSpec wuX9_directByTime ({ frames := 2, cells := 0, slots := 0, locals := 44 })).room s m ([.ref (ad a), .int p0, .int p1, va_re ad p2] : List Value).toArray below meth c H locs 0 0 (MQ below (va_Qi (fun (q : Int32) (_ : Unit) => q = y.2) (fun _ t => kE D ct ad G A y.1 t) A) ([.ref (ad a), .int p0, .int p1, va_re ad p2] : List Value).toArray s 0 0 A) (F0 m 90 ls [.int y17.1]) := by
            intro H locs ls hP hD hS hl
            refine lv_istore (lv' := [(8, .int y17.1), (7, .int y16.2), (6, .int y14.1), (5, .int x11), (4, .int s2.1), (0, .ref (ad a)), (1, .int p0), (2, .int p1), (3, va_re ad p2)]) hx hb dX9_directByTime_90 hl (by decide) rfl (fun ls hl => ?_)
            refine lv_iload hx hb dX9_directByTime_92 (lv_at hl 0 rfl) ?_
            refine lv_if_lt (tgt := 107) hx hb dX9_directByTime_94 (by decide) (fun c18 => ?_) (fun c18 => ?_)
            · rw [if_pos c18] at hF
              refine lv_iconst (v := (0 : Int32)) hx hb dX9_directByTime_107 (by decide) ?_
              obtain ⟨hz9, hF⟩ := chk_some hF
              obtain rfl := Option.some.inj hF
              have hF := sel_inr (hwz4 ▸ hR1)
              obtain rfl := Option.some.inj hF
              exact W.zret (v := (0 : Int32)) (ty := .boolean) hx hb hr (nar_z hz9).1 (fun t ht hW => ⟨⟨_, (), rfl, rfl, ⟨by rw [ht]; exact hP, va_K.moved hW.alike hK, hD⟩⟩, hS.F ht⟩) hS.2.2 dX9_directByTime_108
            · rw [if_neg c18] at hF
              refine lv_aload_n hx hb dX9_directByTime_97 rfl (lv_at hl 5 rfl) ?_
              refine va_get (D := D) (ci := 9) (v := va_re ad (y17.2.2 a 3)) (C := RX9) (T := TX9) (N := 20) hx hb hts (mus hf_X9) hown hK hP a (wld_o ct ad G y17.2 hc hk (by decide)) rfl 3 (by decide) (hts (.fieldLink RX9 11 "VideoSuite$Work" "lists" "[LVideoSuite$Picture;") (mu mw_435)) (fun _ h9 => h9) rfl dX9_directByTime_98 ?_
              refine lv_iload hx hb dX9_directByTime_101 (lv_at hl 0 rfl) ?_
              obtain ⟨b19, ho19, hc19, hk19, hF⟩ := dr_some hF
              refine W_st (st' := [.int y17.1, .ref (ad b19)]) (by rw [va_some ho19]) ?_
              obtain ⟨hvc, hF⟩ := chk_some hF
              refine ld_q hx hb hK hP hc19 hk19 hvc dX9_directByTime_103 ?_
              refine lv_ifnonnullq (tgt := 109) hx hb dX9_directByTime_104 (by decide) (fun c20 => ?_) (fun c20 => ?_)
              · rw [if_neg c20] at hF
                refine lv_iload hx hb dX9_directByTime_109 (lv_at hl 2 rfl) ?_
                obtain ⟨y21, hy21, hF⟩ := bnd_some hF
                have J21 : ∀ (H : Heap) (locs : List Loc) (ls : Array Slot), va_P D classes (wld ct ad G y17.2) H → va_D A (wld ct ad G y17.2) → va_S A s.heap H locs → lv_has ls 16 [(8, .int y17.1), (7, .int y16.2), (6, .int y14.1), (5, .int x11), (4, .int s2.1), (0, .ref (ad a)), (1, .int p0), (2, .int p1), (3, va_re ad p2)] → W p l e (headSpec wuX9_directByTime ({ frames := 2, cells := 0, slots := 0, locals := 44 })).room s m ([.ref (ad a), .int p0, .int p1, va_re ad p2] : List Value).toArray below meth c H locs 0 0 (MQ below (va_Qi (fun (q : Int32) (_ : Unit) => q = y.2) (fun _ t => kE D ct ad G A y.1 t) A) ([.ref (ad a), .int p0, .int p1, va_re ad p2] : List Value).toArray s 0 0 A) (F0 m 127 ls [.int y21]) := by
                  intro H locs ls hP hD hS hl
                  refine lv_istore (lv' := [(9, .int y21), (8, .int y17.1), (7, .int y16.2), (6, .int y14.1), (5, .int x11), (4, .int s2.1), (0, .ref (ad a)), (1, .int p0), (2, .int p1), (3, va_re ad p2)]) hx hb dX9_directByTime_127 hl (by decide) rfl (fun ls hl => ?_)
                  refine lv_iload hx hb dX9_directByTime_129 (lv_at hl 3 rfl) ?_
                  obtain ⟨y22, hy22, hF⟩ := bnd_some hF
                  have J22 : ∀ (H : Heap) (locs : List Loc) (ls : Array Slot), va_P D classes (wld ct ad G y17.2) H → va_D A (wld ct ad G y17.2) → va_S A s.heap H locs → lv_has ls 16 [(9, .int y21), (8, .int y17.1), (7, .int y16.2), (6, .int y14.1), (5, .int x11), (4, .int s2.1), (0, .ref (ad a)), (1, .int p0), (2, .int p1), (3, va_re ad p2)] → W p l e (headSpec wuX9_directByTime ({ frames := 2, cells := 0, slots := 0, locals := 44 })).room s m ([.ref (ad a), .int p0, .int p1, va_re ad p2] : List Value).toArray below meth c H locs 0 0 (MQ below (va_Qi (fun (q : Int32) (_ : Unit) => q = y.2) (fun _ t => kE D ct ad G A y.1 t) A) ([.ref (ad a), .int p0, .int p1, va_re ad p2] : List Value).toArray s 0 0 A) (F0 m 149 ls [.int y22]) := by
                    intro H locs ls hP hD hS hl
                    refine lv_istore (lv' := [(10, .int y22), (9, .int y21), (8, .int y17.1), (7, .int y16.2), (6, .int y14.1), (5, .int x11), (4, .int s2.1), (0, .ref (ad a)), (1, .int p0), (2, .int p1), (3, va_re ad p2)]) hx hb dX9_directByTime_149 hl (by decide) rfl (fun ls hl => ?_)
                    refine lv_aload_n hx hb dX9_directByTime_151 rfl (lv_at hl 7 rfl) ?_
                    refine va_get (D := D) (ci := 9) (v := va_re ad (y17.2.2 a 3)) (C := RX9) (T := TX9) (N := 20) hx hb hts (mus hf_X9) hown hK hP a (wld_o ct ad G y17.2 hc hk (by decide)) rfl 3 (by decide) (hts (.fieldLink RX9 11 "VideoSuite$Work" "lists" "[LVideoSuite$Picture;") (mu mw_435)) (fun _ h9 => h9) rfl dX9_directByTime_152 ?_
                    refine lv_iload hx hb dX9_directByTime_155 (lv_at hl 2 rfl) ?_
                    refine W_st (st' := [.int y17.1, .ref (ad b19)]) (by rw [va_some ho19]) ?_
                    obtain ⟨hvc, hF⟩ := chk_some hF
                    refine ld_q hx hb hK hP hc19 hk19 hvc dX9_directByTime_157 ?_
                    obtain ⟨b23, ho23, hc23, hk23, hF⟩ := dr_some hF
                    refine W_st (st' := [.ref (ad b23)]) (by rw [va_some ho23]) ?_
                    refine va_get (D := D) (ci := 4) (v := .int (y17.2.1 b23 9)) (C := RX4) (T := TX4) (N := 18) hx hb hts (mus hf_X4) hown hK hP b23 (wld_o ct ad G y17.2 hc23 hk23 (by decide)) rfl 9 (by decide) (hts (.fieldLink RX9 105 "VideoSuite$Picture" "order" "I") (mu mw_1454)) (fun _ h9 => h9) rfl dX9_directByTime_158 ?_
                    obtain ⟨x24, ex24, hF⟩ := ltt_some hF
                    refine lv_topi (fun zx24 ezx24 => ?_)
                    obtain rfl : x24 = zx24 := ex24.trans ezx24.symm
                    refine lv_aloadq_n hx hb dX9_directByTime_161 rfl (lv_at hl 10 rfl) ?_
                    refine W_st (st' := [.ref (ad b12), .int x24]) (by rw [va_some ho12]) ?_
                    refine va_get (D := D) (ci := 4) (v := .int (y17.2.1 b12 9)) (C := RX4) (T := TX4) (N := 18) hx hb hts (mus hf_X4) hown hK hP b12 (wld_o ct ad G y17.2 hc12 hk12 (by decide)) rfl 9 (by decide) (hts (.fieldLink RX9 105 "VideoSuite$Picture" "order" "I") (mu mw_1454)) (fun _ h9 => h9) rfl dX9_directByTime_162 ?_
                    obtain ⟨x25, ex25, hF⟩ := ltt_some hF
                    refine lv_topi (fun zx25 ezx25 => ?_)
                    obtain rfl : x25 = zx25 := ex25.trans ezx25.symm
                    obtain ⟨y26, hy26, hF⟩ := bnd_some hF
                    have hf9 := wA_in hD hA9 hS
                    refine va_calli (va_runS (As := [.int x24, .int x25]) (rest := []) ⟨hx, hb, hml, hown, hts⟩ (kX9_timeBetween l D ct ad Z G y17.2 H.size x24 x25 y26 hy26) (va_cwS 2 hts gX9_directByTime_X9_timeBetween rfl rfl rfl (by decide +kernel) ⟨Nat.le_of_ble_eq_true rfl, Nat.le_of_ble_eq_true rfl⟩) ⟨fun a U g mk q => by obtain ⟨q0, q1, qP, qK, qD, qZ, qN⟩ := q; exact ⟨q0, q1, qP, va_K.moved (u := U) (U := U.calling g mk a) (Vm.Alike.refl U.vm) qK, qD, sF.moved (u := U) (U := U.calling g mk a) (Vm.Alike.refl U.vm) qZ, nF.same rfl qN⟩, fun U hU hW => ⟨rfl, by rw [hU], by rw [hU]; exact hP, va_K.moved hW.alike hK, hD.weaken (fun _ _ _ _ => trivial), by rw [hU]; exact ((hZ.kept hS.2.1).narrow hf9).moved hW.alike, hN.warm hW⟩⟩ rfl rfl hl.1 rfl (lv_room (Nat.le_of_ble_eq_true rfl)) dX9_directByTime_165 ⟨(Nat.zero_le _), (Nat.zero_le _)⟩) hS (fun q _ h => hf9 q h) hf9 (fun r u t H locs ht hvm hw hB hz1 hk1 hS => ?_)
                    obtain ⟨hP, hK9, hD9⟩ := hB
                    rw [ht] at hP
                    try dsimp only at hw
                    subst hw
                    have hD := hD9.weaken (fun _ q _ h => hf9 q.1 h)
                    refine lv_istore (lv' := [(11, .int y26.2), (10, .int y22), (9, .int y21), (8, .int y17.1), (7, .int y16.2), (6, .int y14.1), (5, .int x11), (4, .int s2.1), (0, .ref (ad a)), (1, .int p0), (2, .int p1), (3, va_re ad p2)]) hx hb dX9_directByTime_168 hl (by decide) rfl (fun ls hl => ?_)
                    refine lv_aload_n hx hb dX9_directByTime_170 rfl (lv_at hl 8 rfl) ?_
                    refine va_get (D := D) (ci := 9) (v := va_re ad (y26.1.2 a 3)) (C := RX9) (T := TX9) (N := 20) hx hb hts (mus hf_X9) hown hK hP a (wld_o ct ad G y26.1 hc hk (by decide)) rfl 3 (by decide) (hts (.fieldLink RX9 11 "VideoSuite$Work" "lists" "[LVideoSuite$Picture;") (mu mw_435)) (fun _ h9 => h9) rfl dX9_directByTime_171 ?_
                    refine lv_iload hx hb dX9_directByTime_174 (lv_at hl 3 rfl) ?_
                    obtain ⟨b27, ho27, hc27, hk27, hF⟩ := dr_some hF
                    refine W_st (st' := [.int y17.1, .ref (ad b27)]) (by rw [va_some ho27]) ?_
                    obtain ⟨hvc, hF⟩ := chk_some hF
                    refine ld_q hx hb hK hP hc27 hk27 hvc dX9_directByTime_176 ?_
                    obtain ⟨b28, ho28, hc28, hk28, hF⟩ := dr_some hF
                    refine W_st (st' := [.ref (ad b28)]) (by rw [va_some ho28]) ?_
                    refine va_get (D := D) (ci := 4) (v := .int (y26.1.1 b28 10)) (C := RX4) (T := TX4) (N := 18) hx hb hts (mus hf_X4) hown hK hP b28 (wld_o ct ad G y26.1 hc28 hk28 (by decide)) rfl 10 (by decide) (hts (.fieldLink RX9 213 "VideoSuite$Picture" "use" "I") (mu mw_1462)) (fun _ h9 => h9) rfl dX9_directByTime_177 ?_
                    obtain ⟨x29, ex29, hF⟩ := ltt_some hF
                    refine lv_topi (fun zx29 ezx29 => ?_)
                    obtain rfl : x29 = zx29 := ex29.trans ezx29.symm
                    refine lv_iconst (v := (2 : Int32)) hx hb dX9_directByTime_180 (by decide) ?_
                    obtain ⟨y30, hy30, hF⟩ := bnd_some hF
                    have J30 : ∀ (H : Heap) (locs : List Loc) (ls : Array Slot), va_P D classes (wld ct ad G y26.1) H → va_D A (wld ct ad G y26.1) → va_S A s.heap H locs → lv_has ls 16 [(11, .int y26.2), (10, .int y22), (9, .int y21), (8, .int y17.1), (7, .int y16.2), (6, .int y14.1), (5, .int x11), (4, .int s2.1), (0, .ref (ad a)), (1, .int p0), (2, .int p1), (3, va_re ad p2)] → W p l e (headSpec wuX9_directByTime ({ frames := 2, cells := 0, slots := 0, locals := 44 })).room s m ([.ref (ad a), .int p0, .int p1, va_re ad p2] : List Value).toArray below meth c H locs 0 0 (MQ below (va_Qi (fun (q : Int32) (_ : Unit) => q = y.2) (fun _ t => kE D ct ad G A y.1 t) A) ([.ref (ad a), .int p0, .int p1, va_re ad p2] : List Value).toArray s 0 0 A) (F0 m 194 ls [.int y30]) := by
                      intro H locs ls hP hD hS hl
                      refine lv_istore (lv' := [(12, .int y30), (11, .int y26.2), (10, .int y22), (9, .int y21), (8, .int y17.1), (7, .int y16.2), (6, .int y14.1), (5, .int x11), (4, .int s2.1), (0, .ref (ad a)), (1, .int p0), (2, .int p1), (3, va_re ad p2)]) hx hb dX9_directByTime_194 hl (by decide) rfl (fun ls hl => ?_)
                      refine lv_iload hx hb dX9_directByTime_196 (lv_at hl 0 rfl) ?_
                      obtain ⟨y31, hy31, hF⟩ := bnd_some hF
                      have J31 : ∀ (H : Heap) (locs : List Loc) (ls : Array Slot), va_P D classes (wld ct ad G y31.2) H → va_D A (wld ct ad G y31.2) → va_S A s.heap H locs → lv_has ls 16 [(12, .int y30), (11, .int y26.2), (10, .int y22), (9, .int y21), (8, .int y17.1), (7, .int y16.2), (6, .int y14.1), (5, .int x11), (4, .int s2.1), (0, .ref (ad a)), (1, .int p0), (2, .int p1), (3, va_re ad p2)] → W p l e (headSpec wuX9_directByTime ({ frames := 2, cells := 0, slots := 0, locals := 44 })).room s m ([.ref (ad a), .int p0, .int p1, va_re ad p2] : List Value).toArray below meth c H locs 0 0 (MQ below (va_Qi (fun (q : Int32) (_ : Unit) => q = y.2) (fun _ t => kE D ct ad G A y.1 t) A) ([.ref (ad a), .int p0, .int p1, va_re ad p2] : List Value).toArray s 0 0 A) (F0 m 232 ls [.int y31.1]) := by
                        intro H locs ls hP hD hS hl
                        refine lv_istore (lv' := [(13, .int y31.1), (12, .int y30), (11, .int y26.2), (10, .int y22), (9, .int y21), (8, .int y17.1), (7, .int y16.2), (6, .int y14.1), (5, .int x11), (4, .int s2.1), (0, .ref (ad a)), (1, .int p0), (2, .int p1), (3, va_re ad p2)]) hx hb dX9_directByTime_232 hl (by decide) rfl (fun ls hl => ?_)
                        refine lv_iload hx hb dX9_directByTime_234 (lv_at hl 0 rfl) ?_
                        refine lv_iload hx hb dX9_directByTime_236 (lv_at hl 4 rfl) ?_
                        refine lv_imul hx hb dX9_directByTime_238 ?_
                        obtain ⟨x32, ex32, hF⟩ := ltt_some hF
                        refine lv_topi (fun zx32 ezx32 => ?_)
                        obtain rfl : x32 = zx32 := ex32.trans ezx32.symm
                        refine lv_sipush (v := (128 : Int32)) hx hb dX9_directByTime_239 (by decide) ?_
                        refine lv_iadd hx hb dX9_directByTime_242 ?_
                        obtain ⟨x33, ex33, hF⟩ := ltt_some hF
                        refine lv_topi (fun zx33 ezx33 => ?_)
                        obtain rfl : x33 = zx33 := ex33.trans ezx33.symm
                        refine lv_bipush (v := (8 : Int32)) hx hb dX9_directByTime_243 (by decide) ?_
                        refine lv_ishr hx hb dX9_directByTime_245 ?_
                        obtain ⟨x34, ex34, hF⟩ := ltt_some hF
                        refine lv_topi (fun zx34 ezx34 => ?_)
                        obtain rfl : x34 = zx34 := ex34.trans ezx34.symm
                        refine lv_istore (lv' := [(14, .int x34), (13, .int y31.1), (12, .int y30), (11, .int y26.2), (10, .int y22), (9, .int y21), (8, .int y17.1), (7, .int y16.2), (6, .int y14.1), (5, .int x11), (4, .int s2.1), (0, .ref (ad a)), (1, .int p0), (2, .int p1), (3, va_re ad p2)]) hx hb dX9_directByTime_246 hl (by decide) rfl (fun ls hl => ?_)
                        refine lv_iload hx hb dX9_directByTime_248 (lv_at hl 1 rfl) ?_
                        refine lv_iload hx hb dX9_directByTime_250 (lv_at hl 4 rfl) ?_
                        refine lv_imul hx hb dX9_directByTime_252 ?_
                        obtain ⟨x35, ex35, hF⟩ := ltt_some hF
                        refine lv_topi (fun zx35 ezx35 => ?_)
                        obtain rfl : x35 = zx35 := ex35.trans ezx35.symm
                        refine lv_sipush (v := (128 : Int32)) hx hb dX9_directByTime_253 (by decide) ?_
                        refine lv_iadd hx hb dX9_directByTime_256 ?_
                        obtain ⟨x36, ex36, hF⟩ := ltt_some hF
                        refine lv_topi (fun zx36 ezx36 => ?_)
                        obtain rfl : x36 = zx36 := ex36.trans ezx36.symm
                        refine lv_bipush (v := (8 : Int32)) hx hb dX9_directByTime_257 (by decide) ?_
                        refine lv_ishr hx hb dX9_directByTime_259 ?_
                        obtain ⟨x37, ex37, hF⟩ := ltt_some hF
                        refine lv_topi (fun zx37 ezx37 => ?_)
                        obtain rfl : x37 = zx37 := ex37.trans ezx37.symm
                        refine lv_istore (lv' := [(15, .int x37), (14, .int x34), (13, .int y31.1), (12, .int y30), (11, .int y26.2), (10, .int y22), (9, .int y21), (8, .int y17.1), (7, .int y16.2), (6, .int y14.1), (5, .int x11), (4, .int s2.1), (0, .ref (ad a)), (1, .int p0), (2, .int p1), (3, va_re ad p2)]) hx hb dX9_directByTime_260 hl (by decide) rfl (fun ls hl => ?_)
                        refine lv_aload_n hx hb dX9_directByTime_262 rfl (lv_at hl 12 rfl) ?_
                        refine lv_iload_n hx hb dX9_directByTime_263 rfl (lv_at hl 13 rfl) ?_
                        refine lv_iconst (v := (0 : Int32)) hx hb dX9_directByTime_264 (by decide) ?_
                        refine lv_iload hx hb dX9_directByTime_265 (lv_at hl 11 rfl) ?_
                        refine lv_iload hx hb dX9_directByTime_267 (lv_at hl 7 rfl) ?_
                        refine lv_iload hx hb dX9_directByTime_269 (lv_at hl 1 rfl) ?_
                        refine lv_iload hx hb dX9_directByTime_271 (lv_at hl 0 rfl) ?_
                        obtain ⟨y38, hy38, hF⟩ := bnd_some hF
                        have hf9 := wA_in hD hA9 hS
                        refine va_callv (va_runV (As := [.int p0, .int (0 : Int32), .int s2.1, .int y17.1, .int x34, .int x37]) (rest := []) ⟨hx, hb, hml, hown, hts⟩ (kX9_setQuarter l D ct ad Z G y31.2 H.size a p0 ((0 : Int32)) s2.1 y17.1 x34 x37 y38 hc hk hy38) (cwV 6 hts gX9_directByTime_X9_setQuarter rfl rfl rfl (by decide +kernel) ⟨Nat.le_of_ble_eq_true rfl, Nat.le_of_ble_eq_true rfl⟩) ⟨fun a U g mk q => by obtain ⟨q0, q1, qP, qK, qD, qZ, qN⟩ := q; exact ⟨q0, q1, qP, va_K.moved (u := U) (U := U.calling g mk a) (Vm.Alike.refl U.vm) qK, qD, sF.moved (u := U) (U := U.calling g mk a) (Vm.Alike.refl U.vm) qZ, nF.same rfl qN⟩, va_recv hK hP (ci := 9) (q0 := a) rfl (wld_o ct ad G y31.2 hc hk (by decide)), fun U hU hW => ⟨rfl, by rw [hU], by rw [hU]; exact hP, va_K.moved hW.alike hK, hD.weaken (fun _ _ _ _ => trivial), by rw [hU]; exact ((hZ.kept hS.2.1).narrow hf9).moved hW.alike, hN.warm hW⟩⟩ rfl rfl hl.1 rfl (lv_room (Nat.le_of_ble_eq_true rfl)) dX9_directByTime_273 ⟨(Nat.zero_le _), (Nat.zero_le _)⟩) hS (fun q _ h => hf9 q h) hf9 (fun u t H locs ht hvm hw hB hz1 hk1 hS => ?_)
                        obtain ⟨hP, hK9, hD9⟩ := hB
                        rw [ht] at hP
                        have hD := hD9.weaken (fun _ q _ h => hf9 q.1 h)
                        refine lv_aload_n hx hb dX9_directByTime_276 rfl (lv_at hl 12 rfl) ?_
                        refine lv_iload_n hx hb dX9_directByTime_277 rfl (lv_at hl 13 rfl) ?_
                        refine lv_iconst (v := (1 : Int32)) hx hb dX9_directByTime_278 (by decide) ?_
                        refine lv_iload hx hb dX9_directByTime_279 (lv_at hl 11 rfl) ?_
                        refine lv_iconst (v := (0 : Int32)) hx hb dX9_directByTime_281 (by decide) ?_
                        refine lv_iload hx hb dX9_directByTime_282 (lv_at hl 1 rfl) ?_
                        refine lv_iload hx hb dX9_directByTime_284 (lv_at hl 6 rfl) ?_
                        refine lv_isub hx hb dX9_directByTime_286 ?_
                        obtain ⟨x39, ex39, hF⟩ := ltt_some hF
                        refine lv_topi (fun zx39 ezx39 => ?_)
                        obtain rfl : x39 = zx39 := ex39.trans ezx39.symm
                        refine lv_iload hx hb dX9_directByTime_287 (lv_at hl 0 rfl) ?_
                        refine lv_iload hx hb dX9_directByTime_289 (lv_at hl 5 rfl) ?_
                        refine lv_isub hx hb dX9_directByTime_291 ?_
                        obtain ⟨x40, ex40, hF⟩ := ltt_some hF
                        refine lv_topi (fun zx40 ezx40 => ?_)
                        obtain rfl : x40 = zx40 := ex40.trans ezx40.symm
                        obtain ⟨y41, hy41, hF⟩ := bnd_some hF
                        have hf9 := wA_in hD hA9 hS
                        refine va_callv (va_runV (As := [.int p0, .int (1 : Int32), .int s2.1, .int (0 : Int32), .int x39, .int x40]) (rest := []) ⟨hx, hb, hml, hown, hts⟩ (kX9_setQuarter l D ct ad Z G y38 H.size a p0 ((1 : Int32)) s2.1 ((0 : Int32)) x39 x40 y41 hc hk hy41) (cwV 6 hts gX9_directByTime_X9_setQuarter rfl rfl rfl (by decide +kernel) ⟨Nat.le_of_ble_eq_true rfl, Nat.le_of_ble_eq_true rfl⟩) ⟨fun a U g mk q => by obtain ⟨q0, q1, qP, qK, qD, qZ, qN⟩ := q; exact ⟨q0, q1, qP, va_K.moved (u := U) (U := U.calling g mk a) (Vm.Alike.refl U.vm) qK, qD, sF.moved (u := U) (U := U.calling g mk a) (Vm.Alike.refl U.vm) qZ, nF.same rfl qN⟩, va_recv hK hP (ci := 9) (q0 := a) rfl (wld_o ct ad G y38 hc hk (by decide)), fun U hU hW => ⟨rfl, by rw [hU], by rw [hU]; exact hP, va_K.moved hW.alike hK, hD.weaken (fun _ _ _ _ => trivial), by rw [hU]; exact ((hZ.kept hS.2.1).narrow hf9).moved hW.alike, hN.warm hW⟩⟩ rfl rfl hl.1 rfl (lv_room (Nat.le_of_ble_eq_true rfl)) dX9_directByTime_292 ⟨(Nat.zero_le _), (Nat.zero_le _)⟩) hS (fun q _ h => hf9 q h) hf9 (fun u t H locs ht hvm hw hB hz1 hk1 hS => ?_)
                        obtain ⟨hP, hK9, hD9⟩ := hB
                        rw [ht] at hP
                        have hD := hD9.weaken (fun _ q _ h => hf9 q.1 h)
                        obtain ⟨x42, ex42, hF⟩ := ltt_some hF
                        refine lv_iinc (v := x42) (lv' := [(4, .int x42), (15, .int x37), (14, .int x34), (13, .int y31.1), (12, .int y30), (11, .int y26.2), (10, .int y22), (9, .int y21), (8, .int y17.1), (7, .int y16.2), (6, .int y14.1), (5, .int x11), (0, .ref (ad a)), (1, .int p0), (2, .int p1), (3, va_re ad p2)]) hx hb dX9_directByTime_295 hl (k := 11) rfl (by rw [ex42]; rfl) (by decide) (by generalize p2 = o9; cases o9 <;> rfl) (fun ls hl => ?_)
                        refine lv_goto (tgt := 3) hx hb dX9_directByTime_298 (by decide) ?_
                        obtain rfl := Option.some.inj hF
                        exact hwz4 _ _ _ hP hD hS (lv_sub hl [0, 12, 13, 14, 15] rfl)
                      clear hF
                      have hF := hy31
                      clear hy31
                      refine lv_if_eq (tgt := 207) hx hb dX9_directByTime_198 (by decide) (fun c43 => ?_) (fun c43 => ?_)
                      · rw [if_pos c43] at hF
                        refine lv_aload_n hx hb dX9_directByTime_207 rfl (lv_at hl 9 rfl) ?_
                        refine va_get (D := D) (ci := 9) (v := va_re ad (y26.1.2 a 3)) (C := RX9) (T := TX9) (N := 20) hx hb hts (mus hf_X9) hown hK hP a (wld_o ct ad G y26.1 hc hk (by decide)) rfl 3 (by decide) (hts (.fieldLink RX9 11 "VideoSuite$Work" "lists" "[LVideoSuite$Picture;") (mu mw_435)) (fun _ h9 => h9) rfl dX9_directByTime_208 ?_
                        refine lv_iload hx hb dX9_directByTime_211 (lv_at hl 4 rfl) ?_
                        refine W_st (st' := [.int y17.1, .ref (ad b27)]) (by rw [va_some ho27]) ?_
                        obtain ⟨hvc, hF⟩ := chk_some hF
                        refine ld_q hx hb hK hP hc27 hk27 hvc dX9_directByTime_213 ?_
                        refine W_st (st' := [.ref (ad b28)]) (by rw [va_some ho28]) ?_
                        refine va_get (D := D) (ci := 4) (v := .int (y26.1.1 b28 9)) (C := RX4) (T := TX4) (N := 18) hx hb hts (mus hf_X4) hown hK hP b28 (wld_o ct ad G y26.1 hc28 hk28 (by decide)) rfl 9 (by decide) (hts (.fieldLink RX9 105 "VideoSuite$Picture" "order" "I") (mu mw_1454)) (fun _ h9 => h9) rfl dX9_directByTime_214 ?_
                        obtain ⟨x44, ex44, hF⟩ := ltt_some hF
                        refine lv_topi (fun zx44 ezx44 => ?_)
                        obtain rfl : x44 = zx44 := ex44.trans ezx44.symm
                        refine lv_aload_n hx hb dX9_directByTime_217 rfl (lv_at hl 9 rfl) ?_
                        refine va_get (D := D) (ci := 9) (v := va_re ad (y26.1.2 a 0)) (C := RX9) (T := TX9) (N := 20) hx hb hts (mus hf_X9) hown hK hP a (wld_o ct ad G y26.1 hc hk (by decide)) rfl 0 (by decide) (hts (.fieldLink RX9 51 "VideoSuite$Work" "pic" "LVideoSuite$Picture;") (mu mw_422)) (fun _ h9 => h9) rfl dX9_directByTime_218 ?_
                        obtain ⟨b45, ho45, hc45, hk45, hF⟩ := dr_some hF
                        refine W_st (st' := [.ref (ad b45), .int x44]) (by rw [va_some ho45]) ?_
                        refine va_get (D := D) (ci := 4) (v := .int (y26.1.1 b45 9)) (C := RX4) (T := TX4) (N := 18) hx hb hts (mus hf_X4) hown hK hP b45 (wld_o ct ad G y26.1 hc45 hk45 (by decide)) rfl 9 (by decide) (hts (.fieldLink RX9 105 "VideoSuite$Picture" "order" "I") (mu mw_1454)) (fun _ h9 => h9) rfl dX9_directByTime_221 ?_
                        obtain ⟨x46, ex46, hF⟩ := ltt_some hF
                        refine lv_topi (fun zx46 ezx46 => ?_)
                        obtain rfl : x46 = zx46 := ex46.trans ezx46.symm
                        obtain ⟨y47, hy47, hF⟩ := bnd_some hF
                        have hf9 := wA_in hD hA9 hS
                        refine va_calli (va_runS (As := [.int x44, .int x46]) (rest := []) ⟨hx, hb, hml, hown, hts⟩ (kX9_timeBetween l D ct ad Z G y26.1 H.size x44 x46 y47 hy47) (va_cwS 2 hts gX9_directByTime_X9_timeBetween rfl rfl rfl (by decide +kernel) ⟨Nat.le_of_ble_eq_true rfl, Nat.le_of_ble_eq_true rfl⟩) ⟨fun a U g mk q => by obtain ⟨q0, q1, qP, qK, qD, qZ, qN⟩ := q; exact ⟨q0, q1, qP, va_K.moved (u := U) (U := U.calling g mk a) (Vm.Alike.refl U.vm) qK, qD, sF.moved (u := U) (U := U.calling g mk a) (Vm.Alike.refl U.vm) qZ, nF.same rfl qN⟩, fun U hU hW => ⟨rfl, by rw [hU], by rw [hU]; exact hP, va_K.moved hW.alike hK, hD.weaken (fun _ _ _ _ => trivial), by rw [hU]; exact ((hZ.kept hS.2.1).narrow hf9).moved hW.alike, hN.warm hW⟩⟩ rfl rfl hl.1 rfl (lv_room (Nat.le_of_ble_eq_true rfl)) dX9_directByTime_224 ⟨(Nat.zero_le _), (Nat.zero_le _)⟩) hS (fun q _ h => hf9 q h) hf9 (fun r u t H locs ht hvm hw hB hz1 hk1 hS => ?_)
                        obtain ⟨hP, hK9, hD9⟩ := hB
                        rw [ht] at hP
                        try dsimp only at hw
                        subst hw
                        have hD := hD9.weaken (fun _ q _ h => hf9 q.1 h)
                        refine lv_iload hx hb dX9_directByTime_227 (lv_at hl 1 rfl) ?_
                        obtain ⟨y48, hy48, hF⟩ := bnd_some hF
                        have hf9 := wA_in hD hA9 hS
                        refine va_calli (va_runS (As := [.int y47.2, .int y26.2]) (rest := []) ⟨hx, hb, hml, hown, hts⟩ (kX9_scaleBy l D ct ad Z G y47.1 H.size y47.2 y26.2 y48 hy48) (va_cwS 2 hts gX9_directByTime_X9_scaleBy rfl rfl rfl (by decide +kernel) ⟨Nat.le_of_ble_eq_true rfl, Nat.le_of_ble_eq_true rfl⟩) ⟨fun a U g mk q => by obtain ⟨q0, q1, qP, qK, qD, qZ, qN⟩ := q; exact ⟨q0, q1, qP, va_K.moved (u := U) (U := U.calling g mk a) (Vm.Alike.refl U.vm) qK, qD, sF.moved (u := U) (U := U.calling g mk a) (Vm.Alike.refl U.vm) qZ, nF.same rfl qN⟩, fun U hU hW => ⟨rfl, by rw [hU], by rw [hU]; exact hP, va_K.moved hW.alike hK, hD.weaken (fun _ _ _ _ => trivial), by rw [hU]; exact ((hZ.kept hS.2.1).narrow hf9).moved hW.alike, hN.warm hW⟩⟩ rfl rfl hl.1 rfl (lv_room (Nat.le_of_ble_eq_true rfl)) dX9_directByTime_229 ⟨(Nat.zero_le _), (Nat.zero_le _)⟩) hS (fun q _ h => hf9 q h) hf9 (fun r u t H locs ht hvm hw hB hz1 hk1 hS => ?_)
                        obtain ⟨hP, hK9, hD9⟩ := hB
                        rw [ht] at hP
                        try dsimp only at hw
                        subst hw
                        have hD := hD9.weaken (fun _ q _ h => hf9 q.1 h)
                        obtain rfl := Option.some.inj hF
                        exact J31 _ _ _ hP hD hS (lv_sub hl [0, 1, 2, 3, 4, 5, 6, 7, 8, 9, 10, 11, 12] rfl)
                      · rw [if_neg c43] at hF
                        refine lv_sipush (v := (256 : Int32)) hx hb dX9_directByTime_201 (by decide) ?_
                        refine lv_goto (tgt := 232) hx hb dX9_directByTime_204 (by decide) ?_
                        obtain rfl := Option.some.inj hF
                        exact J31 _ _ _ hP hD hS (lv_sub hl [0, 1, 2, 3, 4, 5, 6, 7, 8, 9, 10, 11, 12] rfl)
                    clear hF
                    have hF := hy30
                    clear hy30
                    refine lv_icmp_eq (tgt := 189) hx hb dX9_directByTime_181 (by decide) (fun c49 => ?_) (fun c49 => ?_)
                    · rw [if_pos c49] at hF
                      refine lv_iconst (v := (1 : Int32)) hx hb dX9_directByTime_189 (by decide) ?_
                      refine lv_goto (tgt := 194) hx hb dX9_directByTime_190 (by decide) ?_
                      obtain rfl := Option.some.inj hF
                      exact J30 _ _ _ hP hD hS (lv_sub hl [0, 1, 2, 3, 4, 5, 6, 7, 8, 9, 10, 11] rfl)
                    · rw [if_neg c49] at hF
                      refine lv_iload hx hb dX9_directByTime_184 (lv_at hl 0 rfl) ?_
                      obtain ⟨y50, hy50, hF⟩ := bnd_some hF
                      have J50 : ∀ (H : Heap) (locs : List Loc) (ls : Array Slot), va_P D classes (wld ct ad G y26.1) H → va_D A (wld ct ad G y26.1) → va_S A s.heap H locs → lv_has ls 16 [(11, .int y26.2), (10, .int y22), (9, .int y21), (8, .int y17.1), (7, .int y16.2), (6, .int y14.1), (5, .int x11), (4, .int s2.1), (0, .ref (ad a)), (1, .int p0), (2, .int p1), (3, va_re ad p2)] → W p l e (headSpec wuX9_directByTime ({ frames := 2, cells := 0, slots := 0, locals := 44 })).room s m ([.ref (ad a), .int p0, .int p1, va_re ad p2] : List Value).toArray below meth c H locs 0 0 (MQ below (va_Qi (fun (q : Int32) (_ : Unit) => q = y.2) (fun _ t => kE D ct ad G A y.1 t) A) ([.ref (ad a), .int p0, .int p1, va_re ad p2] : List Value).toArray s 0 0 A) (F0 m 194 ls [.int y50]) := by
                        intro H locs ls hP hD hS hl
                        obtain rfl := Option.some.inj hF
                        exact J30 _ _ _ hP hD hS (lv_sub hl [0, 1, 2, 3, 4, 5, 6, 7, 8, 9, 10, 11] rfl)
                      clear hF
                      have hF := hy50
                      clear hy50
                      refine lv_if_ne (tgt := 193) hx hb dX9_directByTime_186 (by decide) (fun c51 => ?_) (fun c51 => ?_)
                      · rw [if_neg c51] at hF
                        refine lv_iconst (v := (0 : Int32)) hx hb dX9_directByTime_193 (by decide) ?_
                        obtain rfl := Option.some.inj hF
                        exact J50 _ _ _ hP hD hS (lv_sub hl [0, 1, 2, 3, 4, 5, 6, 7, 8, 9, 10, 11] rfl)
                      · rw [if_pos c51] at hF
                        refine lv_iconst (v := (1 : Int32)) hx hb dX9_directByTime_189 (by decide) ?_
                        refine lv_goto (tgt := 194) hx hb dX9_directByTime_190 (by decide) ?_
                        obtain rfl := Option.some.inj hF
                        exact J50 _ _ _ hP hD hS (lv_sub hl [0, 1, 2, 3, 4, 5, 6, 7, 8, 9, 10, 11] rfl)
                  clear hF
                  have hF := hy22
                  clear hy22
                  refine lv_if_ge (tgt := 138) hx hb dX9_directByTime_131 (by decide) (fun c52 => ?_) (fun c52 => ?_)
                  · rw [if_pos c52] at hF
                    refine lv_aloadq_n hx hb dX9_directByTime_138 rfl (lv_at hl 9 rfl) ?_
                    refine W_st (st' := [.ref (ad b12)]) (by rw [va_some ho12]) ?_
                    refine va_get (D := D) (ci := 4) (v := va_re ad (y17.2.2 b12 7)) (C := RX4) (T := TX4) (N := 18) hx hb hts (mus hf_X4) hown hK hP b12 (wld_o ct ad G y17.2 hc12 hk12 (by decide)) rfl 7 (by decide) (hts (.fieldLink RX9 89 "VideoSuite$Picture" "move" "[I") (mu mw_1447)) (fun _ h9 => h9) rfl dX9_directByTime_139 ?_
                    refine lv_iconst (v := (2 : Int32)) hx hb dX9_directByTime_142 (by decide) ?_
                    refine lv_iload hx hb dX9_directByTime_143 (lv_at hl 2 rfl) ?_
                    refine lv_imul hx hb dX9_directByTime_145 ?_
                    obtain ⟨x53, ex53, hF⟩ := ltt_some hF
                    refine lv_topi (fun zx53 ezx53 => ?_)
                    obtain rfl : x53 = zx53 := ex53.trans ezx53.symm
                    refine lv_iconst (v := (1 : Int32)) hx hb dX9_directByTime_146 (by decide) ?_
                    refine lv_iadd hx hb dX9_directByTime_147 ?_
                    obtain ⟨x54, ex54, hF⟩ := ltt_some hF
                    refine lv_topi (fun zx54 ezx54 => ?_)
                    obtain rfl : x54 = zx54 := ex54.trans ezx54.symm
                    obtain ⟨b55, ho55, hc55, hk55, hF⟩ := dr_some hF
                    refine W_st (st' := [.int x54, .ref (ad b55)]) (by rw [va_some ho55]) ?_
                    obtain ⟨hvc, hF⟩ := chk_some hF
                    refine va_iald hx hb hK hP b55 1 (wld_i ct ad G y17.2 hc55 hk55) rfl hvc dX9_directByTime_148 ?_
                    obtain ⟨x56, ex56, hF⟩ := ltt_some hF
                    refine lv_topi (fun zx56 ezx56 => ?_)
                    obtain rfl : x56 = zx56 := ex56.trans ezx56.symm
                    obtain rfl := Option.some.inj hF
                    exact J22 _ _ _ hP hD hS (lv_sub hl [0, 1, 2, 3, 4, 5, 6, 7, 8, 9] rfl)
                  · rw [if_neg c52] at hF
                    refine lv_iconst (v := (0 : Int32)) hx hb dX9_directByTime_134 (by decide) ?_
                    refine lv_goto (tgt := 149) hx hb dX9_directByTime_135 (by decide) ?_
                    obtain rfl := Option.some.inj hF
                    exact J22 _ _ _ hP hD hS (lv_sub hl [0, 1, 2, 3, 4, 5, 6, 7, 8, 9] rfl)
                clear hF
                have hF := hy21
                clear hy21
                refine lv_if_ge (tgt := 118) hx hb dX9_directByTime_111 (by decide) (fun c57 => ?_) (fun c57 => ?_)
                · rw [if_pos c57] at hF
                  refine lv_aloadq_n hx hb dX9_directByTime_118 rfl (lv_at hl 8 rfl) ?_
                  refine W_st (st' := [.ref (ad b12)]) (by rw [va_some ho12]) ?_
                  refine va_get (D := D) (ci := 4) (v := va_re ad (y17.2.2 b12 7)) (C := RX4) (T := TX4) (N := 18) hx hb hts (mus hf_X4) hown hK hP b12 (wld_o ct ad G y17.2 hc12 hk12 (by decide)) rfl 7 (by decide) (hts (.fieldLink RX9 89 "VideoSuite$Picture" "move" "[I") (mu mw_1447)) (fun _ h9 => h9) rfl dX9_directByTime_119 ?_
                  refine lv_iconst (v := (2 : Int32)) hx hb dX9_directByTime_122 (by decide) ?_
                  refine lv_iload hx hb dX9_directByTime_123 (lv_at hl 1 rfl) ?_
                  refine lv_imul hx hb dX9_directByTime_125 ?_
                  obtain ⟨x58, ex58, hF⟩ := ltt_some hF
                  refine lv_topi (fun zx58 ezx58 => ?_)
                  obtain rfl : x58 = zx58 := ex58.trans ezx58.symm
                  obtain ⟨b59, ho59, hc59, hk59, hF⟩ := dr_some hF
                  refine W_st (st' := [.int x58, .ref (ad b59)]) (by rw [va_some ho59]) ?_
                  obtain ⟨hvc, hF⟩ := chk_some hF
                  refine va_iald hx hb hK hP b59 1 (wld_i ct ad G y17.2 hc59 hk59) rfl hvc dX9_directByTime_126 ?_
                  obtain ⟨x60, ex60, hF⟩ := ltt_some hF
                  refine lv_topi (fun zx60 ezx60 => ?_)
                  obtain rfl : x60 = zx60 := ex60.trans ezx60.symm
                  obtain rfl := Option.some.inj hF
                  exact J21 _ _ _ hP hD hS (lv_sub hl [0, 1, 2, 3, 4, 5, 6, 7, 8] rfl)
                · rw [if_neg c57] at hF
                  refine lv_iconst (v := (0 : Int32)) hx hb dX9_directByTime_114 (by decide) ?_
                  refine lv_goto (tgt := 127) hx hb dX9_directByTime_115 (by decide) ?_
                  obtain rfl := Option.some.inj hF
                  exact J21 _ _ _ hP hD hS (lv_sub hl [0, 1, 2, 3, 4, 5, 6, 7, 8] rfl)
              · rw [if_pos c20] at hF
                refine lv_iconst (v := (0 : Int32)) hx hb dX9_directByTime_107 (by decide) ?_
                obtain ⟨hz9, hF⟩ := chk_some hF
                obtain rfl := Option.some.inj hF
                have hF := sel_inr (hwz4 ▸ hR1)
                obtain rfl := Option.some.inj hF
                exact W.zret (v := (0 : Int32)) (ty := .boolean) hx hb hr (nar_z hz9).1 (fun t ht hW => ⟨⟨_, (), rfl, rfl, ⟨by rw [ht]; exact hP, va_K.moved hW.alike hK, hD⟩⟩, hS.F ht⟩) hS.2.2 dX9_directByTime_108
          clear hF
          have hF := hy17
          clear hy17
          refine lv_if_ge (tgt := 79) hx hb dX9_directByTime_72 (by decide) (fun c61 => ?_) (fun c61 => ?_)
          · rw [if_pos c61] at hF
            refine lv_aload_n hx hb dX9_directByTime_79 rfl (lv_at hl 4 rfl) ?_
            refine lv_aloadq_n hx hb dX9_directByTime_80 rfl (lv_at hl 7 rfl) ?_
            refine W_st (st' := [.ref (ad b12), .ref (ad a)]) (by rw [va_some ho12]) ?_
            refine va_get (D := D) (ci := 4) (v := va_re ad (y16.1.2 b12 6)) (C := RX4) (T := TX4) (N := 18) hx hb hts (mus hf_X4) hown hK hP b12 (wld_o ct ad G y16.1 hc12 hk12 (by decide)) rfl 6 (by decide) (hts (.fieldLink RX9 86 "VideoSuite$Picture" "referenceId" "[I") (mu mw_1443)) (fun _ h9 => h9) rfl dX9_directByTime_81 ?_
            refine lv_iload hx hb dX9_directByTime_84 (lv_at hl 0 rfl) ?_
            obtain ⟨b62, ho62, hc62, hk62, hF⟩ := dr_some hF
            refine W_st (st' := [.int y16.2, .ref (ad b62), .ref (ad a)]) (by rw [va_some ho62]) ?_
            obtain ⟨hvc, hF⟩ := chk_some hF
            refine va_iald hx hb hK hP b62 1 (wld_i ct ad G y16.1 hc62 hk62) rfl hvc dX9_directByTime_86 ?_
            obtain ⟨x63, ex63, hF⟩ := ltt_some hF
            refine lv_topi (fun zx63 ezx63 => ?_)
            obtain rfl : x63 = zx63 := ex63.trans ezx63.symm
            obtain ⟨y64, hy64, hF⟩ := bnd_some hF
            have hf9 := wA_in hD hA9 hS
            refine va_calli (va_runV (As := [.int x63]) (rest := []) ⟨hx, hb, hml, hown, hts⟩ (kX9_entryOf l D ct ad Z G y16.1 H.size a x63 y64 hc hk hy64) (cwV 1 hts gX9_directByTime_X9_entryOf rfl rfl rfl (by decide +kernel) ⟨Nat.le_of_ble_eq_true rfl, Nat.le_of_ble_eq_true rfl⟩) ⟨fun a U g mk q => by obtain ⟨q0, q1, qP, qK, qD, qZ, qN⟩ := q; exact ⟨q0, q1, qP, va_K.moved (u := U) (U := U.calling g mk a) (Vm.Alike.refl U.vm) qK, qD, sF.moved (u := U) (U := U.calling g mk a) (Vm.Alike.refl U.vm) qZ, nF.same rfl qN⟩, va_recv hK hP (ci := 9) (q0 := a) rfl (wld_o ct ad G y16.1 hc hk (by decide)), fun U hU hW => ⟨rfl, by rw [hU], by rw [hU]; exact hP, va_K.moved hW.alike hK, hD.weaken (fun _ _ _ _ => trivial), by rw [hU]; exact ((hZ.kept hS.2.1).narrow hf9).moved hW.alike, hN.warm hW⟩⟩ rfl rfl hl.1 rfl (lv_room (Nat.le_of_ble_eq_true rfl)) dX9_directByTime_87 ⟨(Nat.zero_le _), (Nat.zero_le _)⟩) hS (fun q _ h => hf9 q h) hf9 (fun r u t H locs ht hvm hw hB hz1 hk1 hS => ?_)
            obtain ⟨hP, hK9, hD9⟩ := hB
            rw [ht] at hP
            try dsimp only at hw
            subst hw
            have hD := hD9.weaken (fun _ q _ h => hf9 q.1 h)
            obtain rfl := Option.some.inj hF
            exact J17 _ _ _ hP hD hS (lv_sub hl [0, 1, 2, 3, 4, 5, 6, 7] rfl)
          · rw [if_neg c61] at hF
            refine lv_iconst (v := (0 : Int32)) hx hb dX9_directByTime_75 (by decide) ?_
            refine lv_goto (tgt := 90) hx hb dX9_directByTime_76 (by decide) ?_
            obtain rfl := Option.some.inj hF
            exact J17 _ _ _ hP hD hS (lv_sub hl [0, 1, 2, 3, 4, 5, 6, 7] rfl)
        clear hF
        have hF := hy15
        clear hy15
        refine lv_if_ge (tgt := 61) hx hb dX9_directByTime_54 (by decide) (fun c65 => ?_) (fun c65 => ?_)
        · rw [if_pos c65] at hF
          refine lv_iload hx hb dX9_directByTime_61 (lv_at hl 0 rfl) ?_
          obtain rfl := Option.some.inj hF
          exact J15 _ _ _ hP hD hS (lv_sub hl [0, 1, 2, 3, 4, 5, 6] rfl)
        · rw [if_neg c65] at hF
          refine lv_iconst (v := (0 : Int32)) hx hb dX9_directByTime_57 (by decide) ?_
          refine lv_goto (tgt := 63) hx hb dX9_directByTime_58 (by decide) ?_
          obtain rfl := Option.some.inj hF
          exact J15 _ _ _ hP hD hS (lv_sub hl [0, 1, 2, 3, 4, 5, 6] rfl)
      clear hF
      have hF := hy14
      clear hy14
      refine lv_icmp_ge (tgt := 49) hx hb dX9_directByTime_37 (by decide) (fun c66 => ?_) (fun c66 => ?_)
      · rw [if_pos c66] at hF
        refine lv_iconst (v := (-1 : Int32)) hx hb dX9_directByTime_49 (by decide) ?_
        obtain rfl := Option.some.inj hF
        exact J14 _ _ _ hP hD hS (lv_sub hl [0, 1, 2, 3, 4, 5] rfl)
      · rw [if_neg c66] at hF
        refine lv_aloadq_n hx hb dX9_directByTime_40 rfl (lv_at hl 5 rfl) ?_
        refine lv_iload hx hb dX9_directByTime_41 (lv_at hl 0 rfl) ?_
        refine W_st (st' := [.int x11, .ref (ad b12)]) (by rw [va_some ho12]) ?_
        obtain ⟨y67, hy67, hF⟩ := bnd_some hF
        have hf9 := wA_in hD hA9 hS
        refine va_calli (va_runV (As := [.int x11]) (rest := []) ⟨hx, hb, hml, hown, hts⟩ (kX4_listOf l D ct ad Z G y13.1 H.size b12 x11 y67 hc12 hk12 hy67) (cwV 1 hts gX9_directByTime_X4_listOf rfl rfl rfl (by decide +kernel) ⟨Nat.le_of_ble_eq_true rfl, Nat.le_of_ble_eq_true rfl⟩) ⟨fun a U g mk q => by obtain ⟨q0, q1, qP, qK, qD, qZ, qN⟩ := q; exact ⟨q0, q1, qP, va_K.moved (u := U) (U := U.calling g mk a) (Vm.Alike.refl U.vm) qK, qD, sF.moved (u := U) (U := U.calling g mk a) (Vm.Alike.refl U.vm) qZ, nF.same rfl qN⟩, va_recv hK hP (ci := 4) (q0 := b12) rfl (wld_o ct ad G y13.1 hc12 hk12 (by decide)), fun U hU hW => ⟨rfl, by rw [hU], by rw [hU]; exact hP, va_K.moved hW.alike hK, hD.weaken (fun _ _ _ _ => trivial), by rw [hU]; exact ((hZ.kept hS.2.1).narrow hf9).moved hW.alike, hN.warm hW⟩⟩ rfl rfl hl.1 rfl (lv_room (Nat.le_of_ble_eq_true rfl)) dX9_directByTime_43 ⟨(Nat.zero_le _), (Nat.zero_le _)⟩) hS (fun q _ h => hf9 q h) hf9 (fun r u t H locs ht hvm hw hB hz1 hk1 hS => ?_)
        obtain ⟨hP, hK9, hD9⟩ := hB
        rw [ht] at hP
        try dsimp only at hw
        subst hw
        have hD := hD9.weaken (fun _ q _ h => hf9 q.1 h)
        refine lv_goto (tgt := 50) hx hb dX9_directByTime_46 (by decide) ?_
        obtain rfl := Option.some.inj hF
        exact J14 _ _ _ hP hD hS (lv_sub hl [0, 1, 2, 3, 4, 5] rfl)
    · rw [if_pos c8] at hF
      refine lv_goto (tgt := 295) hx hb dX9_directByTime_18 (by decide) ?_
      obtain ⟨x68, ex68, hF⟩ := ltt_some hF
      refine lv_iinc (v := x68) (lv' := [(4, .int x68), (0, .ref (ad a)), (1, .int p0), (2, .int p1), (3, va_re ad p2)]) hx hb dX9_directByTime_295 hl (k := 0) rfl (by rw [ex68]; rfl) (by decide) (by generalize p2 = o9; cases o9 <;> rfl) (fun ls hl => ?_)
      refine lv_goto (tgt := 3) hx hb dX9_directByTime_298 (by decide) ?_
      obtain rfl := Option.some.inj hF
      exact hwz4 _ _ _ hP hD hS (lv_sub hl [0, 1, 2, 3, 4] rfl)
