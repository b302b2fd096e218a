set_option maxRecDepth 20000 in
theorem gX4_movesApart_X4_farApart : GoodIn wuX4_movesApart (wsV RX4 97 RX4 yX4_farApart wuX4_farApart) := gu_V mw_961 mw_963 mw_4 mw_185 mw_965
theorem dX4_movesApart_0 : decode cX4_movesApart 0 = .ok (.aload_n 0, 1) := by decide +kernel
theorem dX4_movesApart_1 : decode cX4_movesApart 1 = .ok (.getfield 23, 3) := by decide +kernel
theorem dX4_movesApart_4 : decode cX4_movesApart 4 = .ok (.iload_n 1, 1) := by decide +kernel
theorem dX4_movesApart_5 : decode cX4_movesApart 5 = .ok (.iaload, 1) := by decide +kernel
theorem dX4_movesApart_6 : decode cX4_movesApart 6 = .ok (.istore_n 3, 1) := by decide +kernel
theorem dX4_movesApart_7 : decode cX4_movesApart 7 = .ok (.aload_n 0, 1) := by decide +kernel
theorem dX4_movesApart_8 : decode cX4_movesApart 8 = .ok (.getfield 23, 3) := by decide +kernel
theorem dX4_movesApart_11 : decode cX4_movesApart 11 = .ok (.sipush 512, 3) := by decide +kernel
theorem dX4_movesApart_14 : decode cX4_movesApart 14 = .ok (.iload_n 1, 1) := by decide +kernel
theorem dX4_movesApart_15 : decode cX4_movesApart 15 = .ok (.iadd, 1) := by decide +kernel
theorem dX4_movesApart_16 : decode cX4_movesApart 16 = .ok (.iaload, 1) := by decide +kernel
theorem dX4_movesApart_17 : decode cX4_movesApart 17 = .ok (.istore 4, 2) := by decide +kernel
theorem dX4_movesApart_19 : decode cX4_movesApart 19 = .ok (.aload_n 0, 1) := by decide +kernel
theorem dX4_movesApart_20 : decode cX4_movesApart 20 = .ok (.getfield 23, 3) := by decide +kernel
theorem dX4_movesApart_23 : decode cX4_movesApart 23 = .ok (.iload_n 2, 1) := by decide +kernel
theorem dX4_movesApart_24 : decode cX4_movesApart 24 = .ok (.iaload, 1) := by decide +kernel
theorem dX4_movesApart_25 : decode cX4_movesApart 25 = .ok (.istore 5, 2) := by decide +kernel
theorem dX4_movesApart_27 : decode cX4_movesApart 27 = .ok (.aload_n 0, 1) := by decide +kernel
theorem dX4_movesApart_28 : decode cX4_movesApart 28 = .ok (.getfield 23, 3) := by decide +kernel
theorem dX4_movesApart_31 : decode cX4_movesApart 31 = .ok (.sipush 512, 3) := by decide +kernel
theorem dX4_movesApart_34 : decode cX4_movesApart 34 = .ok (.iload_n 2, 1) := by decide +kernel
theorem dX4_movesApart_35 : decode cX4_movesApart 35 = .ok (.iadd, 1) := by decide +kernel
theorem dX4_movesApart_36 : decode cX4_movesApart 36 = .ok (.iaload, 1) := by decide +kernel
theorem dX4_movesApart_37 : decode cX4_movesApart 37 = .ok (.istore 6, 2) := by decide +kernel
theorem dX4_movesApart_39 : decode cX4_movesApart 39 = .ok (.iload_n 3, 1) := by decide +kernel
theorem dX4_movesApart_40 : decode cX4_movesApart 40 = .ok (.iload 5, 2) := by decide +kernel
theorem dX4_movesApart_42 : decode cX4_movesApart 42 = .ok (.if_icmp .ne 14, 3) := by decide +kernel
theorem dX4_movesApart_45 : decode cX4_movesApart 45 = .ok (.iload 4, 2) := by decide +kernel
theorem dX4_movesApart_47 : decode cX4_movesApart 47 = .ok (.iload 6, 2) := by decide +kernel
theorem dX4_movesApart_49 : decode cX4_movesApart 49 = .ok (.if_icmp .ne 7, 3) := by decide +kernel
theorem dX4_movesApart_52 : decode cX4_movesApart 52 = .ok (.iconst 1, 1) := by decide +kernel
theorem dX4_movesApart_53 : decode cX4_movesApart 53 = .ok (.goto 4, 3) := by decide +kernel
theorem dX4_movesApart_56 : decode cX4_movesApart 56 = .ok (.iconst 0, 1) := by decide +kernel
theorem dX4_movesApart_57 : decode cX4_movesApart 57 = .ok (.istore 7, 2) := by decide +kernel
theorem dX4_movesApart_59 : decode cX4_movesApart 59 = .ok (.iload_n 3, 1) := by decide +kernel
theorem dX4_movesApart_60 : decode cX4_movesApart 60 = .ok (.iload 6, 2) := by decide +kernel
theorem dX4_movesApart_62 : decode cX4_movesApart 62 = .ok (.if_icmp .ne 14, 3) := by decide +kernel
theorem dX4_movesApart_65 : decode cX4_movesApart 65 = .ok (.iload 4, 2) := by decide +kernel
theorem dX4_movesApart_67 : decode cX4_movesApart 67 = .ok (.iload 5, 2) := by decide +kernel
theorem dX4_movesApart_69 : decode cX4_movesApart 69 = .ok (.if_icmp .ne 7, 3) := by decide +kernel
theorem dX4_movesApart_72 : decode cX4_movesApart 72 = .ok (.iconst 1, 1) := by decide +kernel
theorem dX4_movesApart_73 : decode cX4_movesApart 73 = .ok (.goto 4, 3) := by decide +kernel
theorem dX4_movesApart_76 : decode cX4_movesApart 76 = .ok (.iconst 0, 1) := by decide +kernel
theorem dX4_movesApart_77 : decode cX4_movesApart 77 = .ok (.istore 8, 2) := by decide +kernel
theorem dX4_movesApart_79 : decode cX4_movesApart 79 = .ok (.iload_n 3, 1) := by decide +kernel
theorem dX4_movesApart_80 : decode cX4_movesApart 80 = .ok (.ifCond .eq 12, 3) := by decide +kernel
theorem dX4_movesApart_83 : decode cX4_movesApart 83 = .ok (.aload_n 0, 1) := by decide +kernel
theorem dX4_movesApart_84 : decode cX4_movesApart 84 = .ok (.iload_n 1, 1) := by decide +kernel
theorem dX4_movesApart_85 : decode cX4_movesApart 85 = .ok (.iload_n 2, 1) := by decide +kernel
theorem dX4_movesApart_86 : decode cX4_movesApart 86 = .ok (.invokevirtual 97, 3) := by decide +kernel
theorem dX4_movesApart_89 : decode cX4_movesApart 89 = .ok (.ifCond .ne 25, 3) := by decide +kernel
theorem dX4_movesApart_92 : decode cX4_movesApart 92 = .ok (.iload 4, 2) := by decide +kernel
theorem dX4_movesApart_94 : decode cX4_movesApart 94 = .ok (.ifCond .eq 24, 3) := by decide +kernel
theorem dX4_movesApart_97 : decode cX4_movesApart 97 = .ok (.aload_n 0, 1) := by decide +kernel
theorem dX4_movesApart_98 : decode cX4_movesApart 98 = .ok (.sipush 512, 3) := by decide +kernel
theorem dX4_movesApart_101 : decode cX4_movesApart 101 = .ok (.iload_n 1, 1) := by decide +kernel
theorem dX4_movesApart_102 : decode cX4_movesApart 102 = .ok (.iadd, 1) := by decide +kernel
theorem dX4_movesApart_103 : decode cX4_movesApart 103 = .ok (.sipush 512, 3) := by decide +kernel
theorem dX4_movesApart_106 : decode cX4_movesApart 106 = .ok (.iload_n 2, 1) := by decide +kernel
theorem dX4_movesApart_107 : decode cX4_movesApart 107 = .ok (.iadd, 1) := by decide +kernel
theorem dX4_movesApart_108 : decode cX4_movesApart 108 = .ok (.invokevirtual 97, 3) := by decide +kernel
theorem dX4_movesApart_111 : decode cX4_movesApart 111 = .ok (.ifCond .eq 7, 3) := by decide +kernel
theorem dX4_movesApart_114 : decode cX4_movesApart 114 = .ok (.iconst 1, 1) := by decide +kernel
theorem dX4_movesApart_115 : decode cX4_movesApart 115 = .ok (.goto 4, 3) := by decide +kernel
theorem dX4_movesApart_118 : decode cX4_movesApart 118 = .ok (.iconst 0, 1) := by decide +kernel
theorem dX4_movesApart_119 : decode cX4_movesApart 119 = .ok (.istore 9, 2) := by decide +kernel
theorem dX4_movesApart_121 : decode cX4_movesApart 121 = .ok (.iload_n 3, 1) := by decide +kernel
theorem dX4_movesApart_122 : decode cX4_movesApart 122 = .ok (.ifCond .eq 16, 3) := by decide +kernel
theorem dX4_movesApart_125 : decode cX4_movesApart 125 = .ok (.aload_n 0, 1) := by decide +kernel
theorem dX4_movesApart_126 : decode cX4_movesApart 126 = .ok (.iload_n 1, 1) := by decide +kernel
theorem dX4_movesApart_127 : decode cX4_movesApart 127 = .ok (.sipush 512, 3) := by decide +kernel
theorem dX4_movesApart_130 : decode cX4_movesApart 130 = .ok (.iload_n 2, 1) := by decide +kernel
theorem dX4_movesApart_131 : decode cX4_movesApart 131 = .ok (.iadd, 1) := by decide +kernel
theorem dX4_movesApart_132 : decode cX4_movesApart 132 = .ok (.invokevirtual 97, 3) := by decide +kernel
theorem dX4_movesApart_135 : decode cX4_movesApart 135 = .ok (.ifCond .ne 21, 3) := by decide +kernel
theorem dX4_movesApart_138 : decode cX4_movesApart 138 = .ok (.iload 4, 2) := by decide +kernel
theorem dX4_movesApart_140 : decode cX4_movesApart 140 = .ok (.ifCond .eq 20, 3) := by decide +kernel
theorem dX4_movesApart_143 : decode cX4_movesApart 143 = .ok (.aload_n 0, 1) := by decide +kernel
theorem dX4_movesApart_144 : decode cX4_movesApart 144 = .ok (.sipush 512, 3) := by decide +kernel
theorem dX4_movesApart_147 : decode cX4_movesApart 147 = .ok (.iload_n 1, 1) := by decide +kernel
theorem dX4_movesApart_148 : decode cX4_movesApart 148 = .ok (.iadd, 1) := by decide +kernel
theorem dX4_movesApart_149 : decode cX4_movesApart 149 = .ok (.iload_n 2, 1) := by decide +kernel
theorem dX4_movesApart_150 : decode cX4_movesApart 150 = .ok (.invokevirtual 97, 3) := by decide +kernel
theorem dX4_movesApart_153 : decode cX4_movesApart 153 = .ok (.ifCond .eq 7, 3) := by decide +kernel
theorem dX4_movesApart_156 : decode cX4_movesApart 156 = .ok (.iconst 1, 1) := by decide +kernel
theorem dX4_movesApart_157 : decode cX4_movesApart 157 = .ok (.goto 4, 3) := by decide +kernel
theorem dX4_movesApart_160 : decode cX4_movesApart 160 = .ok (.iconst 0, 1) := by decide +kernel
theorem dX4_movesApart_161 : decode cX4_movesApart 161 = .ok (.istore 10, 2) := by decide +kernel
theorem dX4_movesApart_163 : decode cX4_movesApart 163 = .ok (.iload 7, 2) := by decide +kernel
theorem dX4_movesApart_165 : decode cX4_movesApart 165 = .ok (.ifCond .eq 8, 3) := by decide +kernel
theorem dX4_movesApart_168 : decode cX4_movesApart 168 = .ok (.iload 9, 2) := by decide +kernel
theorem dX4_movesApart_170 : decode cX4_movesApart 170 = .ok (.ifCond .eq 17, 3) := by decide +kernel
theorem dX4_movesApart_173 : decode cX4_movesApart 173 = .ok (.iload 8, 2) := by decide +kernel
theorem dX4_movesApart_175 : decode cX4_movesApart 175 = .ok (.ifCond .eq 8, 3) := by decide +kernel
theorem dX4_movesApart_178 : decode cX4_movesApart 178 = .ok (.iload 10, 2) := by decide +kernel
theorem dX4_movesApart_180 : decode cX4_movesApart 180 = .ok (.ifCond .eq 7, 3) := by decide +kernel
theorem dX4_movesApart_183 : decode cX4_movesApart 183 = .ok (.iconst 1, 1) := by decide +kernel
theorem dX4_movesApart_184 : decode cX4_movesApart 184 = .ok (.goto 4, 3) := by decide +kernel
theorem dX4_movesApart_187 : decode cX4_movesApart 187 = .ok (.iconst 0, 1) := by decide +kernel
theorem dX4_movesApart_188 : decode cX4_movesApart 188 = .ok (.ireturn, 1) := by decide +kernel
def FX4_movesApart (G : GG) (M : DD) (a : Nat) (p0 : Int32) (p1 : Int32) : Option (DD × Int32) :=
  dr G 13 ((M.2 a 6)) fun b2 =>
  chk (¬ (p0 < 0 ∨ G.2.2 b2 ≤ p0.toNatClampNeg)) <|
  ltt (M.1 b2 p0.toNatClampNeg) fun x3 =>
  ltt ((((512 : Int32)) + p0)) fun x4 =>
  chk (¬ (x4 < 0 ∨ G.2.2 b2 ≤ x4.toNatClampNeg)) <|
  ltt (M.1 b2 x4.toNatClampNeg) fun x5 =>
  chk (¬ (p1 < 0 ∨ G.2.2 b2 ≤ p1.toNatClampNeg)) <|
  ltt (M.1 b2 p1.toNatClampNeg) fun x6 =>
  ltt ((((512 : Int32)) + p1)) fun x7 =>
  chk (¬ (x7 < 0 ∨ G.2.2 b2 ≤ x7.toNatClampNeg)) <|
  ltt (M.1 b2 x7.toNatClampNeg) fun x8 =>
  bnd (if x3 = x6 then (bnd (if x5 = x8 then (some ((1 : Int32))) else
  (some ((0 : Int32)))) fun (y64 : Int32) =>
  some (y64)) else
  (some ((0 : Int32)))) fun (y9 : Int32) =>
  bnd (if x3 = x8 then (bnd (if x5 = x6 then (some ((1 : Int32))) else
  (some ((0 : Int32)))) fun (y61 : Int32) =>
  some (y61)) else
  (some ((0 : Int32)))) fun (y10 : Int32) =>
  bnd (if x3 = ((0 : Int32)) then (bnd (if x5 = ((0 : Int32)) then (some ((0 : Int32), M)) else
  (ltt ((((512 : Int32)) + p0)) fun x45 =>
  ltt ((((512 : Int32)) + p1)) fun x46 =>
  bnd (FX4_farApart G M a x45 x46) fun y47 =>
  bnd (if y47.2 = ((0 : Int32)) then (some ((0 : Int32))) else
  (some ((1 : Int32)))) fun (y48 : Int32) =>
  some (y48, y47.1))) fun (y43 : Int32 × DD) =>
  some (y43.1, y43.2)) else
  (bnd (FX4_farApart G M a p0 p1) fun y50 =>
  bnd (if y50.2 = ((0 : Int32)) then (bnd (if x5 = ((0 : Int32)) then (some ((0 : Int32), y50.1)) else
  (ltt ((((512 : Int32)) + p0)) fun x55 =>
  ltt ((((512 : Int32)) + p1)) fun x56 =>
  bnd (FX4_farApart G y50.1 a x55 x56) fun y57 =>
  bnd (if y57.2 = ((0 : Int32)) then (some ((0 : Int32))) else
  (some ((1 : Int32)))) fun (y58 : Int32) =>
  some (y58, y57.1))) fun (y53 : Int32 × DD) =>
  some (y53.1, y53.2)) else
  (some ((1 : Int32), y50.1))) fun (y51 : Int32 × DD) =>
  some (y51.1, y51.2))) fun (y11 : Int32 × DD) =>
  bnd (if x3 = ((0 : Int32)) then (bnd (if x5 = ((0 : Int32)) then (some ((0 : Int32), y11.2)) else
  (ltt ((((512 : Int32)) + p0)) fun x28 =>
  bnd (FX4_farApart G y11.2 a x28 p1) fun y29 =>
  bnd (if y29.2 = ((0 : Int32)) then (some ((0 : Int32))) else
  (some ((1 : Int32)))) fun (y30 : Int32) =>
  some (y30, y29.1))) fun (y26 : Int32 × DD) =>
  some (y26.1, y26.2)) else
  (ltt ((((512 : Int32)) + p1)) fun x32 =>
  bnd (FX4_farApart G y11.2 a p0 x32) fun y33 =>
  bnd (if y33.2 = ((0 : Int32)) then (bnd (if x5 = ((0 : Int32)) then (some ((0 : Int32), y33.1)) else
  (ltt ((((512 : Int32)) + p0)) fun x38 =>
  bnd (FX4_farApart G y33.1 a x38 p1) fun y39 =>
  bnd (if y39.2 = ((0 : Int32)) then (some ((0 : Int32))) else
  (some ((1 : Int32)))) fun (y40 : Int32) =>
  some (y40, y39.1))) fun (y36 : Int32 × DD) =>
  some (y36.1, y36.2)) else
  (some ((1 : Int32), y33.1))) fun (y34 : Int32 × DD) =>
  some (y34.1, y34.2))) fun (y12 : Int32 × DD) =>
  bnd (if y9 = ((0 : Int32)) then (bnd (if y10 = ((0 : Int32)) then (some ((1 : Int32))) else
  (bnd (if y12.1 = ((0 : Int32)) then (some ((0 : Int32))) else
  (some ((1 : Int32)))) fun (y17 : Int32) =>
  some (y17))) fun (y15 : Int32) =>
  some (y15)) else
  (bnd (if y11.1 = ((0 : Int32)) then (some ((0 : Int32))) else
  (bnd (if y10 = ((0 : Int32)) then (some ((1 : Int32))) else
  (bnd (if y12.1 = ((0 : Int32)) then (some ((0 : Int32))) else
  (some ((1 : Int32)))) fun (y23 : Int32) =>
  some (y23))) fun (y21 : Int32) =>
  some (y21))) fun (y19 : Int32) =>
  some (y19))) fun (y13 : Int32) =>
  chk (y13 = 0 ∨ y13 = 1) <|
  some (y12.2, y13)
set_option maxHeartbeats 4000000 in
set_option maxRecDepth 100000 in
theorem kX4_movesApart (l : Launch) (D : va_G) (ct : CT) (ad : Nat → Nat) (Z : Nat → Nat) (G : GG) (M : DD) (sz : Nat) (a : Nat) (p0 : Int32) (p1 : Int32) (y : DD × Int32) (hc : a < G.1) (hk : G.2.1 a = 4) (hF : FX4_movesApart G M a p0 p1 = some y) : Met l yX4_movesApart wuX4_movesApart ({ frames := 1, cells := 0, slots := 0, locals := 24 }) (va_Pc [.ref (ad a), .int p0, .int p1] (kB D ct ad Z G M sz)) (va_Qi (fun (q : Int32) (_ : Unit) => q = y.2) (fun _ t => kE D ct ad G (wA ad G sz) y.1 t) (wA ad G sz)) 0 0 (wA ad G sz) := by
  refine Met.ofW (cc := cX4_movesApart) (maxL := 11) (ret := (some .boolean)) (by decide) rfl ?_
  intro p e s m args below meth c s₁ B hml hv
  obtain ⟨rfl, hsz, hP, hK, hD0, hZ, hN⟩ := hv
  have hx := B.exec
  have hb := B.bytes
  have hr := B.returns
  have hts := atoms_spec (ws := wuX4_movesApart) B.pre
  have hown : s.vm.findClass RX4 = some m.cls := findClass_of_methodNamed B.named
  have hlocks := B.notSynchronized
  subst hsz
  have hD := wD_self (sz := s.heap.size) hD0
  have hA9 : ∀ q, s.heap.size ≤ q → wA ad G s.heap.size q := fun q h => Or.inr h
  generalize hAe : wA ad G s.heap.size = A at hD hA9 hZ ⊢
  have hS : va_S A s.heap s.heap [] := va_S.rf
  have hl := lv_entry ([.ref (ad a), .int p0, .int p1]) (n := 11) (Nat.le_of_ble_eq_true rfl)
  rw [lg_entry_eq]
  generalize (lg_sl ([.ref (ad a), .int p0, .int p1]) ++ List.replicate (11 - (lg_sl ([.ref (ad a), .int p0, .int p1])).length) Slot.unset).toArray = ls at hl ⊢
  have hl : lv_has ls 11 [(0, .ref (ad a)), (1, .int p0), (2, .int p1)] := hl
  unfold FX4_movesApart at hF
  refine lv_aload_n hx hb dX4_movesApart_0 rfl (lv_at hl 0 rfl) ?_
  refine va_get (D := D) (ci := 4) (v := va_re ad (M.2 a 6)) (C := RX4) (T := TX4) (N := 18) hx hb hts (mus hf_X4) hown hK hP a (wld_o ct ad G M hc hk (by decide)) rfl 6 (by decide) (hts (.fieldLink RX4 23 "VideoSuite$Picture" "referenceId" "[I") (mu mw_1442)) (fun _ h9 => h9) rfl dX4_movesApart_1 ?_
  refine lv_iload_n hx hb dX4_movesApart_4 rfl (lv_at hl 1 rfl) ?_
  obtain ⟨b2, ho2, hc2, hk2, hF⟩ := dr_some hF
  refine W_st (st' := [.int p0, .ref (ad b2)]) (by rw [va_some ho2]) ?_
  obtain ⟨hvc, hF⟩ := chk_some hF
  refine va_iald hx hb hK hP b2 1 (wld_i ct ad G M hc2 hk2) rfl hvc dX4_movesApart_5 ?_
  obtain ⟨x3, ex3, hF⟩ := ltt_some hF
  refine lv_topi (fun zx3 ezx3 => ?_)
  obtain rfl : x3 = zx3 := ex3.trans ezx3.symm
  refine lv_istore_n (lv' := [(3, .int x3), (0, .ref (ad a)), (1, .int p0), (2, .int p1)]) hx hb dX4_movesApart_6 rfl hl (by decide) rfl (fun ls hl => ?_)
  refine lv_aload_n hx hb dX4_movesApart_7 rfl (lv_at hl 1 rfl) ?_
  refine va_get (D := D) (ci := 4) (v := va_re ad (M.2 a 6)) (C := RX4) (T := TX4) (N := 18) hx hb hts (mus hf_X4) hown hK hP a (wld_o ct ad G M hc hk (by decide)) rfl 6 (by decide) (hts (.fieldLink RX4 23 "VideoSuite$Picture" "referenceId" "[I") (mu mw_1442)) (fun _ h9 => h9) rfl dX4_movesApart_8 ?_
  refine lv_sipush (v := (512 : Int32)) hx hb dX4_movesApart_11 (by decide) ?_
  refine lv_iload_n hx hb dX4_movesApart_14 rfl (lv_at hl 2 rfl) ?_
  refine lv_iadd hx hb dX4_movesApart_15 ?_
  obtain ⟨x4, ex4, hF⟩ := ltt_some hF
  refine lv_topi (fun zx4 ezx4 => ?_)
  obtain rfl : x4 = zx4 := ex4.trans ezx4.symm
  refine W_st (st' := [.int x4, .ref (ad b2)]) (by rw [va_some ho2]) ?_
  obtain ⟨hvc, hF⟩ := chk_some hF
  refine va_iald hx hb hK hP b2 1 (wld_i ct ad G M hc2 hk2) rfl hvc dX4_movesApart_16 ?_
  obtain ⟨x5, ex5, hF⟩ := ltt_some hF
  refine lv_topi (fun zx5 ezx5 => ?_)
  obtain rfl : x5 = zx5 := ex5.trans ezx5.symm
  refine lv_istore (lv' := [(4, .int x5), (3, .int x3), (0, .ref (ad a)), (1, .int p0), (2, .int p1)]) hx hb dX4_movesApart_17 hl (by decide) rfl (fun ls hl => ?_)
  refine lv_aload_n hx hb dX4_movesApart_19 rfl (lv_at hl 2 rfl) ?_
  refine va_get (D := D) (ci := 4) (v := va_re ad (M.2 a 6)) (C := RX4) (T := TX4) (N := 18) hx hb hts (mus hf_X4) hown hK hP a (wld_o ct ad G M hc hk (by decide)) rfl 6 (by decide) (hts (.fieldLink RX4 23 "VideoSuite$Picture" "referenceId" "[I") (mu mw_1442)) (fun _ h9 => h9) rfl dX4_movesApart_20 ?_
  refine lv_iload_n hx hb dX4_movesApart_23 rfl (lv_at hl 4 rfl) ?_
  refine W_st (st' := [.int p1, .ref (ad b2)]) (by rw [va_some ho2]) ?_
  obtain ⟨hvc, hF⟩ := chk_some hF
  refine va_iald hx hb hK hP b2 1 (wld_i ct ad G M hc2 hk2) rfl hvc dX4_movesApart_24 ?_
  obtain ⟨x6, ex6, hF⟩ := ltt_some hF
  refine lv_topi (fun zx6 ezx6 => ?_)
  obtain rfl : x6 = zx6 := ex6.trans ezx6.symm
  refine lv_istore (lv' := [(5, .int x6), (4, .int x5), (3, .int x3), (0, .ref (ad a)), (1, .int p0), (2, .int p1)]) hx hb dX4_movesApart_25 hl (by decide) rfl (fun ls hl => ?_)
  refine lv_aload_n hx hb dX4_movesApart_27 rfl (lv_at hl 3 rfl) ?_
  refine va_get (D := D) (ci := 4) (v := va_re ad (M.2 a 6)) (C := RX4) (T := TX4) (N := 18) hx hb hts (mus hf_X4) hown hK hP a (wld_o ct ad G M hc hk (by decide)) rfl 6 (by decide) (hts (.fieldLink RX4 23 "VideoSuite$Picture" "referenceId" "[I") (mu mw_1442)) (fun _ h9 => h9) rfl dX4_movesApart_28 ?_
  refine lv_sipush (v := (512 : Int32)) hx hb dX4_movesApart_31 (by decide) ?_
  refine lv_iload_n hx hb dX4_movesApart_34 rfl (lv_at hl 5 rfl) ?_
  refine lv_iadd hx hb dX4_movesApart_35 ?_
  obtain ⟨x7, ex7, hF⟩ := ltt_some hF
  refine lv_topi (fun zx7 ezx7 => ?_)
  obtain rfl : x7 = zx7 := ex7.trans ezx7.symm
  refine W_st (st' := [.int x7, .ref (ad b2)]) (by rw [va_some ho2]) ?_
  obtain ⟨hvc, hF⟩ := chk_some hF
  refine va_iald hx hb hK hP b2 1 (wld_i ct ad G M hc2 hk2) rfl hvc dX4_movesApart_36 ?_
  obtain ⟨x8, ex8, hF⟩ := ltt_some hF
  refine lv_topi (fun zx8 ezx8 => ?_)
  obtain rfl : x8 = zx8 := ex8.trans ezx8.symm
  refine lv_istore (lv' := [(6, .int x8), (5, .int x6), (4, .int x5), (3, .int x3), (0, .ref (ad a)), (1, .int p0), (2, .int p1)]) hx hb dX4_movesApart_37 hl (by decide) rfl (fun ls hl => ?_)
  refine lv_iload_n hx hb dX4_movesApart_39 rfl (lv_at hl 3 rfl) ?_
  refine lv_iload hx hb dX4_movesApart_40 (lv_at hl 1 rfl) ?_
  obtain ⟨y9, hy9, hF⟩ := bnd_some hF
  have J9 : ∀ (H : Heap) (locs : List Loc) (ls : Array Slot), va_P D classes (wld ct ad G M) H → va_D A (wld ct ad G M) → va_S A s.heap H locs → lv_has ls 11 [(6, .int x8), (5, .int x6), (4, .int x5), (3, .int x3), (0, .ref (ad a)), (1, .int p0), (2, .int p1)] → W p l e (headSpec wuX4_movesApart ({ frames := 1, cells := 0, slots := 0, locals := 24 })).room s m ([.ref (ad a), .int p0, .int p1] : List Value).toArray below meth c H locs 0 0 (MQ below (va_Qi (fun (q : Int32) (_ : Unit) => q = y.2) (fun _ t => kE D ct ad G A y.1 t) A) ([.ref (ad a), .int p0, .int p1] : List Value).toArray s 0 0 A) (F0 m 57 ls [.int y9]) := by
    intro H locs ls hP hD hS hl
    refine lv_istore (lv' := [(7, .int y9), (6, .int x8), (5, .int x6), (4, .int x5), (3, .int x3), (0, .ref (ad a)), (1, .int p0), (2, .int p1)]) hx hb dX4_movesApart_57 hl (by decide) rfl (fun ls hl => ?_)
    refine lv_iload_n hx hb dX4_movesApart_59 rfl (lv_at hl 4 rfl) ?_
    refine lv_iload hx hb dX4_movesApart_60 (lv_at hl 1 rfl) ?_
    obtain ⟨y10, hy10, hF⟩ := bnd_some hF
    have J10 : ∀ (H : Heap) (locs : List Loc) (ls : Array Slot), va_P D classes (wld ct ad G M) H → va_D A (wld ct ad G M) → va_S A s.heap H locs → lv_has ls 11 [(7, .int y9), (6, .int x8), (5, .int x6), (4, .int x5), (3, .int x3), (0, .ref (ad a)), (1, .int p0), (2, .int p1)] → W p l e (headSpec wuX4_movesApart ({ frames := 1, cells := 0, slots := 0, locals := 24 })).room s m ([.ref (ad a), .int p0, .int p1] : List Value).toArray below meth c H locs 0 0 (MQ below (va_Qi (fun (q : Int32) (_ : Unit) => q = y.2) (fun _ t => kE D ct ad G A y.1 t) A) ([.ref (ad a), .int p0, .int p1] : List Value).toArray s 0 0 A) (F0 m 77 ls [.int y10]) := by
      intro H locs ls hP hD hS hl
      refine lv_istore (lv' := [(8, .int y10), (7, .int y9), (6, .int x8), (5, .int x6), (4, .int x5), (3, .int x3), (0, .ref (ad a)), (1, .int p0), (2, .int p1)]) hx hb dX4_movesApart_77 hl (by decide) rfl (fun ls hl => ?_)
      refine lv_iload_n hx hb dX4_movesApart_79 rfl (lv_at hl 5 rfl) ?_
      obtain ⟨y11, hy11, hF⟩ := bnd_some hF
      have J11 : ∀ (H : Heap) (locs : List Loc) (ls : Array Slot), va_P D classes (wld ct ad G y11.2) H → va_D A (wld ct ad G y11.2) → va_S A s.heap H locs → lv_has ls 11 [(8, .int y10), (7, .int y9), (6, .int x8), (5, .int x6), (4, .int x5), (3, .int x3), (0, .ref (ad a)), (1, .int p0), (2, .int p1)] → W p l e (headSpec wuX4_movesApart ({ frames := 1, cells := 0, slots := 0, locals := 24 })).room s m ([.ref (ad a), .int p0, .int p1] : List Value).toArray below meth c H locs 0 0 (MQ below (va_Qi (fun (q : Int32) (_ : Unit) => q = y.2) (fun _ t => kE D ct ad G A y.1 t) A) ([.ref (ad a), .int p0, .int p1] : List Value).toArray s 0 0 A) (F0 m 119 ls [.int y11.1]) := by
        intro H locs ls hP hD hS hl
        refine lv_istore (lv' := [(9, .int y11.1), (8, .int y10), (7, .int y9), (6, .int x8), (5, .int x6), (4, .int x5), (3, .int x3), (0, .ref (ad a)), (1, .int p0), (2, .int p1)]) hx hb dX4_movesApart_119 hl (by decide) rfl (fun ls hl => ?_)
        refine lv_iload_n hx hb dX4_movesApart_121 rfl (lv_at hl 6 rfl) ?_
        obtain ⟨y12, hy12, hF⟩ := bnd_some hF
        have J12 : ∀ (H : Heap) (locs : List Loc) (ls : Array Slot), va_P D classes (wld ct ad G y12.2) H → va_D A (wld ct ad G y12.2) → va_S A s.heap H locs → lv_has ls 11 [(9, .int y11.1), (8, .int y10), (7, .int y9), (6, .int x8), (5, .int x6), (4, .int x5), (3, .int x3), (0, .ref (ad a)), (1, .int p0), (2, .int p1)] → W p l e (headSpec wuX4_movesApart ({ frames := 1, cells := 0, slots := 0, locals := 24 })).room s m ([.ref (ad a), .int p0, .int p1] : List Value).toArray below meth c H locs 0 0 (MQ below (va_Qi (fun (q : Int32) (_ : Unit) => q = y.2) (fun _ t => kE D ct ad G A y.1 t) A) ([.ref (ad a), .int p0, .int p1] : List Value).toArray s 0 0 A) (F0 m 161 ls [.int y12.1]) := by
          intro H locs ls hP hD hS hl
          refine lv_istore (lv' := [(10, .int y12.1), (9, .int y11.1), (8, .int y10), (7, .int y9), (6, .int x8), (5, .int x6), (4, .int x5), (3, .int x3), (0, .ref (ad a)), (1, .int p0), (2, .int p1)]) hx hb dX4_movesApart_161 hl (by decide) rfl (fun ls hl => ?_)
          refine lv_iload hx hb dX4_movesApart_163 (lv_at hl 3 rfl) ?_
          obtain ⟨y13, hy13, hF⟩ := bnd_some hF
          have J13 : ∀ (H : Heap) (locs : List Loc) (ls : Array Slot), va_P D classes (wld ct ad G y12.2) H → va_D A (wld ct ad G y12.2) → va_S A s.heap H locs → lv_has ls 11 [(10, .int y12.1), (9, .int y11.1), (8, .int y10), (7, .int y9), (6, .int x8), (5, .int x6), (4, .int x5), (3, .int x3), (0, .ref (ad a)), (1, .int p0), (2, .int p1)] → W p l e (headSpec wuX4_movesApart ({ frames := 1, cells := 0, slots := 0, locals := 24 })).room s m ([.ref (ad a), .int p0, .int p1] : List Value).toArray below meth c H locs 0 0 (MQ below (va_Qi (fun (q : Int32) (_ : Unit) => q = y.2) (fun _ t => kE D ct ad G A y.1 t) A) ([.ref (ad a), .int p0, .int p1] : List Value).toArray s 0 0 A) (F0 m 188 ls [.int y13]) := by
            intro H locs ls hP hD hS hl
            obtain ⟨hz9, hF⟩ := chk_some hF
            obtain rfl := Option.some.inj hF
            exact W.zret (v := y13) (ty := .boolean) hx hb hr (nar_z hz9).1 (fun t ht hW => ⟨⟨_, (), rfl, rfl, ⟨by rw [ht]; exact hP, va_K.moved hW.alike hK, hD⟩⟩, hS.F ht⟩) hS.2.2 dX4_movesApart_188
          clear hF
          have hF := hy13
          clear hy13
          refine lv_if_eq (tgt := 173) hx hb dX4_movesApart_165 (by decide) (fun c14 => ?_) (fun c14 => ?_)
          · rw [if_pos c14] at hF
            refine lv_iload hx hb dX4_movesApart_173 (lv_at hl 2 rfl) ?_
            obtain ⟨y15, hy15, hF⟩ := bnd_some hF
            have J15 : ∀ (H : Heap) (locs : List Loc) (ls : Array Slot), va_P D classes (wld ct ad G y12.2) H → va_D A (wld ct ad G y12.2) → va_S A s.heap H locs → lv_has ls 11 [(10, .int y12.1), (9, .int y11.1), (8, .int y10), (7, .int y9), (6, .int x8), (5, .int x6), (4, .int x5), (3, .int x3), (0, .ref (ad a)), (1, .int p0), (2, .int p1)] → W p l e (headSpec wuX4_movesApart ({ frames := 1, cells := 0, slots := 0, locals := 24 })).room s m ([.ref (ad a), .int p0, .int p1] : List Value).toArray below meth c H locs 0 0 (MQ below (va_Qi (fun (q : Int32) (_ : Unit) => q = y.2) (fun _ t => kE D ct ad G A y.1 t) A) ([.ref (ad a), .int p0, .int p1] : List Value).toArray s 0 0 A) (F0 m 188 ls [.int y15]) := by
              intro H locs ls hP hD hS hl
              obtain rfl := Option.some.inj hF
              exact J13 _ _ _ hP hD hS (lv_sub hl [0, 1, 2, 3, 4, 5, 6, 7, 8, 9, 10] rfl)
            clear hF
            have hF := hy15
            clear hy15
            refine lv_if_eq (tgt := 183) hx hb dX4_movesApart_175 (by decide) (fun c16 => ?_) (fun c16 => ?_)
            · rw [if_pos c16] at hF
              refine lv_iconst (v := (1 : Int32)) hx hb dX4_movesApart_183 (by decide) ?_
              refine lv_goto (tgt := 188) hx hb dX4_movesApart_184 (by decide) ?_
              obtain rfl := Option.some.inj hF
              exact J15 _ _ _ hP hD hS (lv_sub hl [0, 1, 2, 3, 4, 5, 6, 7, 8, 9, 10] rfl)
            · rw [if_neg c16] at hF
              refine lv_iload hx hb dX4_movesApart_178 (lv_at hl 0 rfl) ?_
              obtain ⟨y17, hy17, hF⟩ := bnd_some hF
              have J17 : ∀ (H : Heap) (locs : List Loc) (ls : Array Slot), va_P D classes (wld ct ad G y12.2) H → va_D A (wld ct ad G y12.2) → va_S A s.heap H locs → lv_has ls 11 [(10, .int y12.1), (9, .int y11.1), (8, .int y10), (7, .int y9), (6, .int x8), (5, .int x6), (4, .int x5), (3, .int x3), (0, .ref (ad a)), (1, .int p0), (2, .int p1)] → W p l e (headSpec wuX4_movesApart ({ frames := 1, cells := 0, slots := 0, locals := 24 })).room s m ([.ref (ad a), .int p0, .int p1] : List Value).toArray below meth c H locs 0 0 (MQ below (va_Qi (fun (q : Int32) (_ : Unit) => q = y.2) (fun _ t => kE D ct ad G A y.1 t) A) ([.ref (ad a), .int p0, .int p1] : List Value).toArray s 0 0 A) (F0 m 188 ls [.int y17]) := by
                intro H locs ls hP hD hS hl
                obtain rfl := Option.some.inj hF
                exact J15 _ _ _ hP hD hS (lv_sub hl [0, 1, 2, 3, 4, 5, 6, 7, 8, 9, 10] rfl)
              clear hF
              have hF := hy17
              clear hy17
              refine lv_if_eq (tgt := 187) hx hb dX4_movesApart_180 (by decide) (fun c18 => ?_) (fun c18 => ?_)
              · rw [if_pos c18] at hF
                refine lv_iconst (v := (0 : Int32)) hx hb dX4_movesApart_187 (by decide) ?_
                obtain rfl := Option.some.inj hF
                exact J17 _ _ _ hP hD hS (lv_sub hl [0, 1, 2, 3, 4, 5, 6, 7, 8, 9, 10] rfl)
              · rw [if_neg c18] at hF
                refine lv_iconst (v := (1 : Int32)) hx hb dX4_movesApart_183 (by decide) ?_
                refine lv_goto (tgt := 188) hx hb dX4_movesApart_184 (by decide) ?_
                obtain rfl := Option.some.inj hF
                exact J17 _ _ _ hP hD hS (lv_sub hl [0, 1, 2, 3, 4, 5, 6, 7, 8, 9, 10] rfl)
          · rw [if_neg c14] at hF
            refine lv_iload hx hb dX4_movesApart_168 (lv_at hl 1 rfl) ?_
            obtain ⟨y19, hy19, hF⟩ := bnd_some hF
            have J19 : ∀ (H : Heap) (locs : List Loc) (ls : Array Slot), va_P D classes (wld ct ad G y12.2) H → va_D A (wld ct ad G y12.2) → va_S A s.heap H locs → lv_has ls 11 [(10, .int y12.1), (9, .int y11.1), (8, .int y10), (7, .int y9), (6, .int x8), (5, .int x6), (4, .int x5), (3, .int x3), (0, .ref (ad a)), (1, .int p0), (2, .int p1)] → W p l e (headSpec wuX4_movesApart ({ frames := 1, cells := 0, slots := 0, locals := 24 })).room s m ([.ref (ad a), .int p0, .int p1] : List Value).toArray below meth c H locs 0 0 (MQ below (va_Qi (fun (q : Int32) (_ : Unit) => q = y.2) (fun _ t => kE D ct ad G A y.1 t) A) ([.ref (ad a), .int p0, .int p1] : List Value).toArray s 0 0 A) (F0 m 188 ls [.int y19]) := by
              intro H locs ls hP hD hS hl
              obtain rfl := Option.some.inj hF
              exact J13 _ _ _ hP hD hS (lv_sub hl [0, 1, 2, 3, 4, 5, 6, 7, 8, 9, 10] rfl)
            clear hF
            have hF := hy19
            clear hy19
            refine lv_if_eq (tgt := 187) hx hb dX4_movesApart_170 (by decide) (fun c20 => ?_) (fun c20 => ?_)
            · rw [if_pos c20] at hF
              refine lv_iconst (v := (0 : Int32)) hx hb dX4_movesApart_187 (by decide) ?_
              obtain rfl := Option.some.inj hF
              exact J19 _ _ _ hP hD hS (lv_sub hl [0, 1, 2, 3, 4, 5, 6, 7, 8, 9, 10] rfl)
            · rw [if_neg c20] at hF
              refine lv_iload hx hb dX4_movesApart_173 (lv_at hl 2 rfl) ?_
              obtain ⟨y21, hy21, hF⟩ := bnd_some hF
              have J21 : ∀ (H : Heap) (locs : List Loc) (ls : Array Slot), va_P D classes (wld ct ad G y12.2) H → va_D A (wld ct ad G y12.2) → va_S A s.heap H locs → lv_has ls 11 [(10, .int y12.1), (9, .int y11.1), (8, .int y10), (7, .int y9), (6, .int x8), (5, .int x6), (4, .int x5), (3, .int x3), (0, .ref (ad a)), (1, .int p0), (2, .int p1)] → W p l e (headSpec wuX4_movesApart ({ frames := 1, cells := 0, slots := 0, locals := 24 })).room s m ([.ref (ad a), .int p0, .int p1] : List Value).toArray below meth c H locs 0 0 (MQ below (va_Qi (fun (q : Int32) (_ : Unit) => q = y.2) (fun _ t => kE D ct ad G A y.1 t) A) ([.ref (ad a), .int p0, .int p1] : List Value).toArray s 0 0 A) (F0 m 188 ls [.int y21]) := by
                intro H locs ls hP hD hS hl
                obtain rfl := Option.some.inj hF
                exact J19 _ _ _ hP hD hS (lv_sub hl [0, 1, 2, 3, 4, 5, 6, 7, 8, 9, 10] rfl)
              clear hF
              have hF := hy21
              clear hy21
              refine lv_if_eq (tgt := 183) hx hb dX4_movesApart_175 (by decide) (fun c22 => ?_) (fun c22 => ?_)
              · rw [if_pos c22] at hF
                refine lv_iconst (v := (1 : Int32)) hx hb dX4_movesApart_183 (by decide) ?_
                refine lv_goto (tgt := 188) hx hb dX4_movesApart_184 (by decide) ?_
                obtain rfl := Option.some.inj hF
                exact J21 _ _ _ hP hD hS (lv_sub hl [0, 1, 2, 3, 4, 5, 6, 7, 8, 9, 10] rfl)
              · rw [if_neg c22] at hF
                refine lv_iload hx hb dX4_movesApart_178 (lv_at hl 0 rfl) ?_
                obtain ⟨y23, hy23, hF⟩ := bnd_some hF
                have J23 : ∀ (H : Heap) (locs : List Loc) (ls : Array Slot), va_P D classes (wld ct ad G y12.2) H → va_D A (wld ct ad G y12.2) → va_S A s.heap H locs → lv_has ls 11 [(10, .int y12.1), (9, .int y11.1), (8, .int y10), (7, .int y9), (6, .int x8), (5, .int x6), (4, .int x5), (3, .int x3), (0, .ref (ad a)), (1, .int p0), (2, .int p1)] → W p l e (headSpec wuX4_movesApart ({ frames := 1, cells := 0, slots := 0, locals := 24 })).room s m ([.ref (ad a), .int p0, .int p1] : List Value).toArray below meth c H locs 0 0 (MQ below (va_Qi (fun (q : Int32) (_ : Unit) => q = y.2) (fun _ t => kE D ct ad G A y.1 t) A) ([.ref (ad a), .int p0, .int p1] : List Value).toArray s 0 0 A) (F0 m 188 ls [.int y23]) := by
                  intro H locs ls hP hD hS hl
                  obtain rfl := Option.some.inj hF
                  exact J21 _ _ _ hP hD hS (lv_sub hl [0, 1, 2, 3, 4, 5, 6, 7, 8, 9, 10] rfl)
                clear hF
                have hF := hy23
                clear hy23
                refine lv_if_eq (tgt := 187) hx hb dX4_movesApart_180 (by decide) (fun c24 => ?_) (fun c24 => ?_)
                · rw [if_pos c24] at hF
                  refine lv_iconst (v := (0 : Int32)) hx hb dX4_movesApart_187 (by decide) ?_
                  obtain rfl := Option.some.inj hF
                  exact J23 _ _ _ hP hD hS (lv_sub hl [0, 1, 2, 3, 4, 5, 6, 7, 8, 9, 10] rfl)
                · rw [if_neg c24] at hF
                  refine lv_iconst (v := (1 : Int32)) hx hb dX4_movesApart_183 (by decide) ?_
                  refine lv_goto (tgt := 188) hx hb dX4_movesApart_184 (by decide) ?_
                  obtain rfl := Option.some.inj hF
                  exact J23 _ _ _ hP hD hS (lv_sub hl [0, 1, 2, 3, 4, 5, 6, 7, 8, 9, 10] rfl)
        clear hF
        have hF := hy12
        clear hy12
        refine lv_if_eq (tgt := 138) hx hb dX4_movesApart_122 (by decide) (fun c25 => ?_) (fun c25 => ?_)
        · rw [if_pos c25] at hF
          refine lv_iload hx hb dX4_movesApart_138 (lv_at hl 5 rfl) ?_
          obtain ⟨y26, hy26, hF⟩ := bnd_some hF
          have J26 : ∀ (H : Heap) (locs : List Loc) (ls : Array Slot), va_P D classes (wld ct ad G y26.2) H → va_D A (wld ct ad G y26.2) → va_S A s.heap H locs → lv_has ls 11 [(9, .int y11.1), (8, .int y10), (7, .int y9), (6, .int x8), (5, .int x6), (4, .int x5), (3, .int x3), (0, .ref (ad a)), (1, .int p0), (2, .int p1)] → W p l e (headSpec wuX4_movesApart ({ frames := 1, cells := 0, slots := 0, locals := 24 })).room s m ([.ref (ad a), .int p0, .int p1] : List Value).toArray below meth c H locs 0 0 (MQ below (va_Qi (fun (q : Int32) (_ : Unit) => q = y.2) (fun _ t => kE D ct ad G A y.1 t) A) ([.ref (ad a), .int p0, .int p1] : List Value).toArray s 0 0 A) (F0 m 161 ls [.int y26.1]) := by
            intro H locs ls hP hD hS hl
            obtain rfl := Option.some.inj hF
            exact J12 _ _ _ hP hD hS (lv_sub hl [0, 1, 2, 3, 4, 5, 6, 7, 8, 9] rfl)
          clear hF
          have hF := hy26
          clear hy26
          refine lv_if_eq (tgt := 160) hx hb dX4_movesApart_140 (by decide) (fun c27 => ?_) (fun c27 => ?_)
          · rw [if_pos c27] at hF
            refine lv_iconst (v := (0 : Int32)) hx hb dX4_movesApart_160 (by decide) ?_
            obtain rfl := Option.some.inj hF
            exact J26 _ _ _ hP hD hS (lv_sub hl [0, 1, 2, 3, 4, 5, 6, 7, 8, 9] rfl)
          · rw [if_neg c27] at hF
            refine lv_aload_n hx hb dX4_movesApart_143 rfl (lv_at hl 7 rfl) ?_
            refine lv_sipush (v := (512 : Int32)) hx hb dX4_movesApart_144 (by decide) ?_
            refine lv_iload_n hx hb dX4_movesApart_147 rfl (lv_at hl 8 rfl) ?_
            refine lv_iadd hx hb dX4_movesApart_148 ?_
            obtain ⟨x28, ex28, hF⟩ := ltt_some hF
            refine lv_topi (fun zx28 ezx28 => ?_)
            obtain rfl : x28 = zx28 := ex28.trans ezx28.symm
            refine lv_iload_n hx hb dX4_movesApart_149 rfl (lv_at hl 9 rfl) ?_
            obtain ⟨y29, hy29, hF⟩ := bnd_some hF
            have hf9 := wA_in hD hA9 hS
            refine va_calli (va_runV (As := [.int x28, .int p1]) (rest := []) ⟨hx, hb, hml, hown, hts⟩ (kX4_farApart l D ct ad Z G y11.2 H.size a x28 p1 y29 hc hk hy29) (cwV 2 hts gX4_movesApart_X4_farApart rfl rfl rfl (by decide +kernel) ⟨Nat.le_of_ble_eq_true rfl, Nat.le_of_ble_eq_true rfl⟩) ⟨fun a U g mk q => by obtain ⟨q0, q1, qP, qK, qD, qZ, qN⟩ := q; exact ⟨q0, q1, qP, va_K.moved (u := U) (U := U.calling g mk a) (Vm.Alike.refl U.vm) qK, qD, sF.moved (u := U) (U := U.calling g mk a) (Vm.Alike.refl U.vm) qZ, nF.same rfl qN⟩, va_recv hK hP (ci := 4) (q0 := a) rfl (wld_o ct ad G y11.2 hc hk (by decide)), fun U hU hW => ⟨rfl, by rw [hU], by rw [hU]; exact hP, va_K.moved hW.alike hK, hD.weaken (fun _ _ _ _ => trivial), by rw [hU]; exact ((hZ.kept hS.2.1).narrow hf9).moved hW.alike, hN.warm hW⟩⟩ rfl rfl hl.1 rfl (lv_room (Nat.le_of_ble_eq_true rfl)) dX4_movesApart_150 ⟨(Nat.zero_le _), (Nat.zero_le _)⟩) hS (fun q _ h => hf9 q h) hf9 (fun r u t H locs ht hvm hw hB hz1 hk1 hS => ?_)
            obtain ⟨hP, hK9, hD9⟩ := hB
            rw [ht] at hP
            try dsimp only at hw
            subst hw
            have hD := hD9.weaken (fun _ q _ h => hf9 q.1 h)
            obtain ⟨y30, hy30, hF⟩ := bnd_some hF
            have J30 : ∀ (H : Heap) (locs : List Loc) (ls : Array Slot), va_P D classes (wld ct ad G y29.1) H → va_D A (wld ct ad G y29.1) → va_S A s.heap H locs → lv_has ls 11 [(9, .int y11.1), (8, .int y10), (7, .int y9), (6, .int x8), (5, .int x6), (4, .int x5), (3, .int x3), (0, .ref (ad a)), (1, .int p0), (2, .int p1)] → W p l e (headSpec wuX4_movesApart ({ frames := 1, cells := 0, slots := 0, locals := 24 })).room s m ([.ref (ad a), .int p0, .int p1] : List Value).toArray below meth c H locs 0 0 (MQ below (va_Qi (fun (q : Int32) (_ : Unit) => q = y.2) (fun _ t => kE D ct ad G A y.1 t) A) ([.ref (ad a), .int p0, .int p1] : List Value).toArray s 0 0 A) (F0 m 161 ls [.int y30]) := by
              intro H locs ls hP hD hS hl
              obtain rfl := Option.some.inj hF
              exact J26 _ _ _ hP hD hS (lv_sub hl [0, 1, 2, 3, 4, 5, 6, 7, 8, 9] rfl)
            clear hF
            have hF := hy30
            clear hy30
            refine lv_if_eq (tgt := 160) hx hb dX4_movesApart_153 (by decide) (fun c31 => ?_) (fun c31 => ?_)
            · rw [if_pos c31] at hF
              refine lv_iconst (v := (0 : Int32)) hx hb dX4_movesApart_160 (by decide) ?_
              obtain rfl := Option.some.inj hF
              exact J30 _ _ _ hP hD hS (lv_sub hl [0, 1, 2, 3, 4, 5, 6, 7, 8, 9] rfl)
            · rw [if_neg c31] at hF
              refine lv_iconst (v := (1 : Int32)) hx hb dX4_movesApart_156 (by decide) ?_
              refine lv_goto (tgt := 161) hx hb dX4_movesApart_157 (by decide) ?_
              obtain rfl := Option.some.inj hF
              exact J30 _ _ _ hP hD hS (lv_sub hl [0, 1, 2, 3, 4, 5, 6, 7, 8, 9] rfl)
        · rw [if_neg c25] at hF
          refine lv_aload_n hx hb dX4_movesApart_125 rfl (lv_at hl 7 rfl) ?_
          refine lv_iload_n hx hb dX4_movesApart_126 rfl (lv_at hl 8 rfl) ?_
          refine lv_sipush (v := (512 : Int32)) hx hb dX4_movesApart_127 (by decide) ?_
          refine lv_iload_n hx hb dX4_movesApart_130 rfl (lv_at hl 9 rfl) ?_
          refine lv_iadd hx hb dX4_movesApart_131 ?_
          obtain ⟨x32, ex32, hF⟩ := ltt_some hF
          refine lv_topi (fun zx32 ezx32 => ?_)
          obtain rfl : x32 = zx32 := ex32.trans ezx32.symm
          obtain ⟨y33, hy33, hF⟩ := bnd_some hF
          have hf9 := wA_in hD hA9 hS
          refine va_calli (va_runV (As := [.int p0, .int x32]) (rest := []) ⟨hx, hb, hml, hown, hts⟩ (kX4_farApart l D ct ad Z G y11.2 H.size a p0 x32 y33 hc hk hy33) (cwV 2 hts gX4_movesApart_X4_farApart rfl rfl rfl (by decide +kernel) ⟨Nat.le_of_ble_eq_true rfl, Nat.le_of_ble_eq_true rfl⟩) ⟨fun a U g mk q => by obtain ⟨q0, q1, qP, qK, qD, qZ, qN⟩ := q; exact ⟨q0, q1, qP, va_K.moved (u := U) (U := U.calling g mk a) (Vm.Alike.refl U.vm) qK, qD, sF.moved (u := U) (U := U.calling g mk a) (Vm.Alike.refl U.vm) qZ, nF.same rfl qN⟩, va_recv hK hP (ci := 4) (q0 := a) rfl (wld_o ct ad G y11.2 hc hk (by decide)), fun U hU hW => ⟨rfl, by rw [hU], by rw [hU]; exact hP, va_K.moved hW.alike hK, hD.weaken (fun _ _ _ _ => trivial), by rw [hU]; exact ((hZ.kept hS.2.1).narrow hf9).moved hW.alike, hN.warm hW⟩⟩ rfl rfl hl.1 rfl (lv_room (Nat.le_of_ble_eq_true rfl)) dX4_movesApart_132 ⟨(Nat.zero_le _), (Nat.zero_le _)⟩) hS (fun q _ h => hf9 q h) hf9 (fun r u t H locs ht hvm hw hB hz1 hk1 hS => ?_)
          obtain ⟨hP, hK9, hD9⟩ := hB
          rw [ht] at hP
          try dsimp only at hw
          subst hw
          have hD := hD9.weaken (fun _ q _ h => hf9 q.1 h)
          obtain ⟨y34, hy34, hF⟩ := bnd_some hF
          have J34 : ∀ (H : Heap) (locs : List Loc) (ls : Array Slot), va_P D classes (wld ct ad G y34.2) H → va_D A (wld ct ad G y34.2) → va_S A s.heap H locs → lv_has ls 11 [(9, .int y11.1), (8, .int y10), (7, .int y9), (6, .int x8), (5, .int x6), (4, .int x5), (3, .int x3), (0, .ref (ad a)), (1, .int p0), (2, .int p1)] → W p l e (headSpec wuX4_movesApart ({ frames := 1, cells := 0, slots := 0, locals := 24 })).room s m ([.ref (ad a), .int p0, .int p1] : List Value).toArray below meth c H locs 0 0 (MQ below (va_Qi (fun (q : Int32) (_ : Unit) => q = y.2) (fun _ t => kE D ct ad G A y.1 t) A) ([.ref (ad a), .int p0, .int p1] : List Value).toArray s 0 0 A) (F0 m 161 ls [.int y34.1]) := by
            intro H locs ls hP hD hS hl
            obtain rfl := Option.some.inj hF
            exact J12 _ _ _ hP hD hS (lv_sub hl [0, 1, 2, 3, 4, 5, 6, 7, 8, 9] rfl)
          clear hF
          have hF := hy34
          clear hy34
          refine lv_if_ne (tgt := 156) hx hb dX4_movesApart_135 (by decide) (fun c35 => ?_) (fun c35 => ?_)
          · rw [if_neg c35] at hF
            refine lv_iconst (v := (1 : Int32)) hx hb dX4_movesApart_156 (by decide) ?_
            refine lv_goto (tgt := 161) hx hb dX4_movesApart_157 (by decide) ?_
            obtain rfl := Option.some.inj hF
            exact J34 _ _ _ hP hD hS (lv_sub hl [0, 1, 2, 3, 4, 5, 6, 7, 8, 9] rfl)
          · rw [if_pos c35] at hF
            refine lv_iload hx hb dX4_movesApart_138 (lv_at hl 5 rfl) ?_
            obtain ⟨y36, hy36, hF⟩ := bnd_some hF
            have J36 : ∀ (H : Heap) (locs : List Loc) (ls : Array Slot), va_P D classes (wld ct ad G y36.2) H → va_D A (wld ct ad G y36.2) → va_S A s.heap H locs → lv_has ls 11 [(9, .int y11.1), (8, .int y10), (7, .int y9), (6, .int x8), (5, .int x6), (4, .int x5), (3, .int x3), (0, .ref (ad a)), (1, .int p0), (2, .int p1)] → W p l e (headSpec wuX4_movesApart ({ frames := 1, cells := 0, slots := 0, locals := 24 })).room s m ([.ref (ad a), .int p0, .int p1] : List Value).toArray below meth c H locs 0 0 (MQ below (va_Qi (fun (q : Int32) (_ : Unit) => q = y.2) (fun _ t => kE D ct ad G A y.1 t) A) ([.ref (ad a), .int p0, .int p1] : List Value).toArray s 0 0 A) (F0 m 161 ls [.int y36.1]) := by
              intro H locs ls hP hD hS hl
              obtain rfl := Option.some.inj hF
              exact J34 _ _ _ hP hD hS (lv_sub hl [0, 1, 2, 3, 4, 5, 6, 7, 8, 9] rfl)
            clear hF
            have hF := hy36
            clear hy36
            refine lv_if_eq (tgt := 160) hx hb dX4_movesApart_140 (by decide) (fun c37 => ?_) (fun c37 => ?_)
            · rw [if_pos c37] at hF
              refine lv_iconst (v := (0 : Int32)) hx hb dX4_movesApart_160 (by decide) ?_
              obtain rfl := Option.some.inj hF
              exact J36 _ _ _ hP hD hS (lv_sub hl [0, 1, 2, 3, 4, 5, 6, 7, 8, 9] rfl)
            · rw [if_neg c37] at hF
              refine lv_aload_n hx hb dX4_movesApart_143 rfl (lv_at hl 7 rfl) ?_
              refine lv_sipush (v := (512 : Int32)) hx hb dX4_movesApart_144 (by decide) ?_
              refine lv_iload_n hx hb dX4_movesApart_147 rfl (lv_at hl 8 rfl) ?_
              refine lv_iadd hx hb dX4_movesApart_148 ?_
              obtain ⟨x38, ex38, hF⟩ := ltt_some hF
              refine lv_topi (fun zx38 ezx38 => ?_)
              obtain rfl : x38 = zx38 := ex38.trans ezx38.symm
              refine lv_iload_n hx hb dX4_movesApart_149 rfl (lv_at hl 9 rfl) ?_
              obtain ⟨y39, hy39, hF⟩ := bnd_some hF
              have hf9 := wA_in hD hA9 hS
              refine va_calli (va_runV (As := [.int x38, .int p1]) (rest := []) ⟨hx, hb, hml, hown, hts⟩ (kX4_farApart l D ct ad Z G y33.1 H.size a x38 p1 y39 hc hk hy39) (cwV 2 hts gX4_movesApart_X4_farApart rfl rfl rfl (by decide +kernel) ⟨Nat.le_of_ble_eq_true rfl, Nat.le_of_ble_eq_true rfl⟩) ⟨fun a U g mk q => by obtain ⟨q0, q1, qP, qK, qD, qZ, qN⟩ := q; exact ⟨q0, q1, qP, va_K.moved (u := U) (U := U.calling g mk a) (Vm.Alike.refl U.vm) qK, qD, sF.moved (u := U) (U := U.calling g mk a) (Vm.Alike.refl U.vm) qZ, nF.same rfl qN⟩, va_recv hK hP (ci := 4) (q0 := a) rfl (wld_o ct ad G y33.1 hc hk (by decide)), fun U hU hW => ⟨rfl, by rw [hU], by rw [hU]; exact hP, va_K.moved hW.alike hK, hD.weaken (fun _ _ _ _ => trivial), by rw [hU]; exact ((hZ.kept hS.2.1).narrow hf9).moved hW.alike, hN.warm hW⟩⟩ rfl rfl hl.1 rfl (lv_room (Nat.le_of_ble_eq_true rfl)) dX4_movesApart_150 ⟨(Nat.zero_le _), (Nat.zero_le _)⟩) hS (fun q _ h => hf9 q h) hf9 (fun r u t H locs ht hvm hw hB hz1 hk1 hS => ?_)
              obtain ⟨hP, hK9, hD9⟩ := hB
              rw [ht] at hP
              try dsimp only at hw
              subst hw
              have hD := hD9.weaken (fun _ q _ h => hf9 q.1 h)
              obtain ⟨y40, hy40, hF⟩ := bnd_some hF
              have J40 : ∀ (H : Heap) (locs : List Loc) (ls : Array Slot), va_P D classes (wld ct ad G y39.1) H → va_D A (wld ct ad G y39.1) → va_S A s.heap H locs → lv_has ls 11 [(9, .int y11.1), (8, .int y10), (7, .int y9), (6, .int x8), (5, .int x6), (4, .int x5), (3, .int x3), (0, .ref (ad a)), (1, .int p0), (2, .int p1)] → W p l e (headSpec wuX4_movesApart ({ frames := 1, cells := 0, slots := 0, locals := 24 })).room s m ([.ref (ad a), .int p0, .int p1] : List Value).toArray below meth c H locs 0 0 (MQ below (va_Qi (fun (q : Int32) (_ : Unit) => q = y.2) (fun _ t => kE D ct ad G A y.1 t) A) ([.ref (ad a), .int p0, .int p1] : List Value).toArray s 0 0 A) (F0 m 161 ls [.int y40]) := by
                intro H locs ls hP hD hS hl
                obtain rfl := Option.some.inj hF
                exact J36 _ _ _ hP hD hS (lv_sub hl [0, 1, 2, 3, 4, 5, 6, 7, 8, 9] rfl)
              clear hF
              have hF := hy40
              clear hy40
              refine lv_if_eq (tgt := 160) hx hb dX4_movesApart_153 (by decide) (fun c41 => ?_) (fun c41 => ?_)
              · rw [if_pos c41] at hF
                refine lv_iconst (v := (0 : Int32)) hx hb dX4_movesApart_160 (by decide) ?_
                obtain rfl := Option.some.inj hF
                exact J40 _ _ _ hP hD hS (lv_sub hl [0, 1, 2, 3, 4, 5, 6, 7, 8, 9] rfl)
              · rw [if_neg c41] at hF
                refine lv_iconst (v := (1 : Int32)) hx hb dX4_movesApart_156 (by decide) ?_
                refine lv_goto (tgt := 161) hx hb dX4_movesApart_157 (by decide) ?_
                obtain rfl := Option.some.inj hF
                exact J40 _ _ _ hP hD hS (lv_sub hl [0, 1, 2, 3, 4, 5, 6, 7, 8, 9] rfl)
      clear hF
      have hF := hy11
      clear hy11
      refine lv_if_eq (tgt := 92) hx hb dX4_movesApart_80 (by decide) (fun c42 => ?_) (fun c42 => ?_)
      · rw [if_pos c42] at hF
        refine lv_iload hx hb dX4_movesApart_92 (lv_at hl 4 rfl) ?_
        obtain ⟨y43, hy43, hF⟩ := bnd_some hF
        have J43 : ∀ (H : Heap) (locs : List Loc) (ls : Array Slot), va_P D classes (wld ct ad G y43.2) H → va_D A (wld ct ad G y43.2) → va_S A s.heap H locs → lv_has ls 11 [(8, .int y10), (7, .int y9), (6, .int x8), (5, .int x6), (4, .int x5), (3, .int x3), (0, .ref (ad a)), (1, .int p0), (2, .int p1)] → W p l e (headSpec wuX4_movesApart ({ frames := 1, cells := 0, slots := 0, locals := 24 })).room s m ([.ref (ad a), .int p0, .int p1] : List Value).toArray below meth c H locs 0 0 (MQ below (va_Qi (fun (q : Int32) (_ : Unit) => q = y.2) (fun _ t => kE D ct ad G A y.1 t) A) ([.ref (ad a), .int p0, .int p1] : List Value).toArray s 0 0 A) (F0 m 119 ls [.int y43.1]) := by
          intro H locs ls hP hD hS hl
          obtain rfl := Option.some.inj hF
          exact J11 _ _ _ hP hD hS (lv_sub hl [0, 1, 2, 3, 4, 5, 6, 7, 8] rfl)
        clear hF
        have hF := hy43
        clear hy43
        refine lv_if_eq (tgt := 118) hx hb dX4_movesApart_94 (by decide) (fun c44 => ?_) (fun c44 => ?_)
        · rw [if_pos c44] at hF
          refine lv_iconst (v := (0 : Int32)) hx hb dX4_movesApart_118 (by decide) ?_
          obtain rfl := Option.some.inj hF
          exact J43 _ _ _ hP hD hS (lv_sub hl [0, 1, 2, 3, 4, 5, 6, 7, 8] rfl)
        · rw [if_neg c44] at hF
          refine lv_aload_n hx hb dX4_movesApart_97 rfl (lv_at hl 6 rfl) ?_
          refine lv_sipush (v := (512 : Int32)) hx hb dX4_movesApart_98 (by decide) ?_
          refine lv_iload_n hx hb dX4_movesApart_101 rfl (lv_at hl 7 rfl) ?_
          refine lv_iadd hx hb dX4_movesApart_102 ?_
          obtain ⟨x45, ex45, hF⟩ := ltt_some hF
          refine lv_topi (fun zx45 ezx45 => ?_)
          obtain rfl : x45 = zx45 := ex45.trans ezx45.symm
          refine lv_sipush (v := (512 : Int32)) hx hb dX4_movesApart_103 (by decide) ?_
          refine lv_iload_n hx hb dX4_movesApart_106 rfl (lv_at hl 8 rfl) ?_
          refine lv_iadd hx hb dX4_movesApart_107 ?_
          obtain ⟨x46, ex46, hF⟩ := ltt_some hF
          refine lv_topi (fun zx46 ezx46 => ?_)
          obtain rfl : x46 = zx46 := ex46.trans ezx46.symm
          obtain ⟨y47, hy47, hF⟩ := bnd_some hF
          have hf9 := wA_in hD hA9 hS
          refine va_calli (va_runV (As := [.int x45, .int x46]) (rest := []) ⟨hx, hb, hml, hown, hts⟩ (kX4_farApart l D ct ad Z G M H.size a x45 x46 y47 hc hk hy47) (cwV 2 hts gX4_movesApart_X4_farApart rfl rfl rfl (by decide +kernel) ⟨Nat.le_of_ble_eq_true rfl, Nat.le_of_ble_eq_true rfl⟩) ⟨fun a U g mk q => by obtain ⟨q0, q1, qP, qK, qD, qZ, qN⟩ := q; exact ⟨q0, q1, qP, va_K.moved (u := U) (U := U.calling g mk a) (Vm.Alike.refl U.vm) qK, qD, sF.moved (u := U) (U := U.calling g mk a) (Vm.Alike.refl U.vm) qZ, nF.same rfl qN⟩, va_recv hK hP (ci := 4) (q0 := a) rfl (wld_o ct ad G M hc hk (by decide)), fun U hU hW => ⟨rfl, by rw [hU], by rw [hU]; exact hP, va_K.moved hW.alike hK, hD.weaken (fun _ _ _ _ => trivial), by rw [hU]; exact ((hZ.kept hS.2.1).narrow hf9).moved hW.alike, hN.warm hW⟩⟩ rfl rfl hl.1 rfl (lv_room (Nat.le_of_ble_eq_true rfl)) dX4_movesApart_108 ⟨(Nat.zero_le _), (Nat.zero_le _)⟩) hS (fun q _ h => hf9 q h) hf9 (fun r u t H locs ht hvm hw hB hz1 hk1 hS => ?_)
          obtain ⟨hP, hK9, hD9⟩ := hB
          rw [ht] at hP
          try dsimp only at hw
          subst hw
          have hD := hD9.weaken (fun _ q _ h => hf9 q.1 h)
          obtain ⟨y48, hy48, hF⟩ := bnd_some hF
          have J48 : ∀ (H : Heap) (locs : List Loc) (ls : Array Slot), va_P D classes (wld ct ad G y47.1) H → va_D A (wld ct ad G y47.1) → va_S A s.heap H locs → lv_has ls 11 [(8, .int y10), (7, .int y9), (6, .int x8), (5, .int x6), (4, .int x5), (3, .int x3), (0, .ref (ad a)), (1, .int p0), (2, .int p1)] → W p l e (headSpec wuX4_movesApart ({ frames := 1, cells := 0, slots := 0, locals := 24 })).room s m ([.ref (ad a), .int p0, .int p1] : List Value).toArray below meth c H locs 0 0 (MQ below (va_Qi (fun (q : Int32) (_ : Unit) => q = y.2) (fun _ t => kE D ct ad G A y.1 t) A) ([.ref (ad a), .int p0, .int p1] : List Value).toArray s 0 0 A) (F0 m 119 ls [.int y48]) := by
            intro H locs ls hP hD hS hl
            obtain rfl := Option.some.inj hF
            exact J43 _ _ _ hP hD hS (lv_sub hl [0, 1, 2, 3, 4, 5, 6, 7, 8] rfl)
          clear hF
          have hF := hy48
          clear hy48
          refine lv_if_eq (tgt := 118) hx hb dX4_movesApart_111 (by decide) (fun c49 => ?_) (fun c49 => ?_)
          · rw [if_pos c49] at hF
            refine lv_iconst (v := (0 : Int32)) hx hb dX4_movesApart_118 (by decide) ?_
            obtain rfl := Option.some.inj hF
            exact J48 _ _ _ hP hD hS (lv_sub hl [0, 1, 2, 3, 4, 5, 6, 7, 8] rfl)
          · rw [if_neg c49] at hF
            refine lv_iconst (v := (1 : Int32)) hx hb dX4_movesApart_114 (by decide) ?_
            refine lv_goto (tgt := 119) hx hb dX4_movesApart_115 (by decide) ?_
            obtain rfl := Option.some.inj hF
            exact J48 _ _ _ hP hD hS (lv_sub hl [0, 1, 2, 3, 4, 5, 6, 7, 8] rfl)
      · rw [if_neg c42] at hF
        refine lv_aload_n hx hb dX4_movesApart_83 rfl (lv_at hl 6 rfl) ?_
        refine lv_iload_n hx hb dX4_movesApart_84 rfl (lv_at hl 7 rfl) ?_
        refine lv_iload_n hx hb dX4_movesApart_85 rfl (lv_at hl 8 rfl) ?_
        obtain ⟨y50, hy50, hF⟩ := bnd_some hF
        have hf9 := wA_in hD hA9 hS
        refine va_calli (va_runV (As := [.int p0, .int p1]) (rest := []) ⟨hx, hb, hml, hown, hts⟩ (kX4_farApart l D ct ad Z G M H.size a p0 p1 y50 hc hk hy50) (cwV 2 hts gX4_movesApart_X4_farApart rfl rfl rfl (by decide +kernel) ⟨Nat.le_of_ble_eq_true rfl, Nat.le_of_ble_eq_true rfl⟩) ⟨fun a U g mk q => by obtain ⟨q0, q1, qP, qK, qD, qZ, qN⟩ := q; exact ⟨q0, q1, qP, va_K.moved (u := U) (U := U.calling g mk a) (Vm.Alike.refl U.vm) qK, qD, sF.moved (u := U) (U := U.calling g mk a) (Vm.Alike.refl U.vm) qZ, nF.same rfl qN⟩, va_recv hK hP (ci := 4) (q0 := a) rfl (wld_o ct ad G M hc hk (by decide)), fun U hU hW => ⟨rfl, by rw [hU], by rw [hU]; exact hP, va_K.moved hW.alike hK, hD.weaken (fun _ _ _ _ => trivial), by rw [hU]; exact ((hZ.kept hS.2.1).narrow hf9).moved hW.alike, hN.warm hW⟩⟩ rfl rfl hl.1 rfl (lv_room (Nat.le_of_ble_eq_true rfl)) dX4_movesApart_86 ⟨(Nat.zero_le _), (Nat.zero_le _)⟩) hS (fun q _ h => hf9 q h) hf9 (fun r u t H locs ht hvm hw hB hz1 hk1 hS => ?_)
        obtain ⟨hP, hK9, hD9⟩ := hB
        rw [ht] at hP
        try dsimp only at hw
        subst hw
        have hD := hD9.weaken (fun _ q _ h => hf9 q.1 h)
        obtain ⟨y51, hy51, hF⟩ := bnd_some hF
        have J51 : ∀ (H : Heap) (locs : List Loc) (ls : Array Slot), va_P D classes (wld ct ad G y51.2) H → va_D A (wld ct ad G y51.2) → va_S A s.heap H locs → lv_has ls 11 [(8, .int y10), (7, .int y9), (6, .int x8), (5, .int x6), (4, .int x5), (3, .int x3), (0, .ref (ad a)), (1, .int p0), (2, .int p1)] → W p l e (headSpec wuX4_movesApart ({ frames := 1, cells := 0, slots := 0, locals := 24 })).room s m ([.ref (ad a), .int p0, .int p1] : List Value).toArray below meth c H locs 0 0 (MQ below (va_Qi (fun (q : Int32) (_ : Unit) => q = y.2) (fun _ t => kE D ct ad G A y.1 t) A) ([.ref (ad a), .int p0, .int p1] : List Value).toArray s 0 0 A) (F0 m 119 ls [.int y51.1]) := by
          intro H locs ls hP hD hS hl
          obtain rfl := Option.some.inj hF
          exact J11 _ _ _ hP hD hS (lv_sub hl [0, 1, 2, 3, 4, 5, 6, 7, 8] rfl)
        clear hF
        have hF := hy51
        clear hy51
        refine lv_if_ne (tgt := 114) hx hb dX4_movesApart_89 (by decide) (fun c52 => ?_) (fun c52 => ?_)
        · rw [if_neg c52] at hF
          refine lv_iconst (v := (1 : Int32)) hx hb dX4_movesApart_114 (by decide) ?_
          refine lv_goto (tgt := 119) hx hb dX4_movesApart_115 (by decide) ?_
          obtain rfl := Option.some.inj hF
          exact J51 _ _ _ hP hD hS (lv_sub hl [0, 1, 2, 3, 4, 5, 6, 7, 8] rfl)
        · rw [if_pos c52] at hF
          refine lv_iload hx hb dX4_movesApart_92 (lv_at hl 4 rfl) ?_
          obtain ⟨y53, hy53, hF⟩ := bnd_some hF
          have J53 : ∀ (H : Heap) (locs : List Loc) (ls : Array Slot), va_P D classes (wld ct ad G y53.2) H → va_D A (wld ct ad G y53.2) → va_S A s.heap H locs → lv_has ls 11 [(8, .int y10), (7, .int y9), (6, .int x8), (5, .int x6), (4, .int x5), (3, .int x3), (0, .ref (ad a)), (1, .int p0), (2, .int p1)] → W p l e (headSpec wuX4_movesApart ({ frames := 1, cells := 0, slots := 0, locals := 24 })).room s m ([.ref (ad a), .int p0, .int p1] : List Value).toArray below meth c H locs 0 0 (MQ below (va_Qi (fun (q : Int32) (_ : Unit) => q = y.2) (fun _ t => kE D ct ad G A y.1 t) A) ([.ref (ad a), .int p0, .int p1] : List Value).toArray s 0 0 A) (F0 m 119 ls [.int y53.1]) := by
            intro H locs ls hP hD hS hl
            obtain rfl := Option.some.inj hF
            exact J51 _ _ _ hP hD hS (lv_sub hl [0, 1, 2, 3, 4, 5, 6, 7, 8] rfl)
          clear hF
          have hF := hy53
          clear hy53
          refine lv_if_eq (tgt := 118) hx hb dX4_movesApart_94 (by decide) (fun c54 => ?_) (fun c54 => ?_)
          · rw [if_pos c54] at hF
            refine lv_iconst (v := (0 : Int32)) hx hb dX4_movesApart_118 (by decide) ?_
            obtain rfl := Option.some.inj hF
            exact J53 _ _ _ hP hD hS (lv_sub hl [0, 1, 2, 3, 4, 5, 6, 7, 8] rfl)
          · rw [if_neg c54] at hF
            refine lv_aload_n hx hb dX4_movesApart_97 rfl (lv_at hl 6 rfl) ?_
            refine lv_sipush (v := (512 : Int32)) hx hb dX4_movesApart_98 (by decide) ?_
            refine lv_iload_n hx hb dX4_movesApart_101 rfl (lv_at hl 7 rfl) ?_
            refine lv_iadd hx hb dX4_movesApart_102 ?_
            obtain ⟨x55, ex55, hF⟩ := ltt_some hF
            refine lv_topi (fun zx55 ezx55 => ?_)
            obtain rfl : x55 = zx55 := ex55.trans ezx55.symm
            refine lv_sipush (v := (512 : Int32)) hx hb dX4_movesApart_103 (by decide) ?_
            refine lv_iload_n hx hb dX4_movesApart_106 rfl (lv_at hl 8 rfl) ?_
            refine lv_iadd hx hb dX4_movesApart_107 ?_
            obtain ⟨x56, ex56, hF⟩ := ltt_some hF
            refine lv_topi (fun zx56 ezx56 => ?_)
            obtain rfl : x56 = zx56 := ex56.trans ezx56.symm
            obtain ⟨y57, hy57, hF⟩ := bnd_some hF
            have hf9 := wA_in hD hA9 hS
            refine va_calli (va_runV (As := [.int x55, .int x56]) (rest := []) ⟨hx, hb, hml, hown, hts⟩ (kX4_farApart l D ct ad Z G y50.1 H.size a x55 x56 y57 hc hk hy57) (cwV 2 hts gX4_movesApart_X4_farApart rfl rfl rfl (by decide +kernel) ⟨Nat.le_of_ble_eq_true rfl, Nat.le_of_ble_eq_true rfl⟩) ⟨fun a U g mk q => by obtain ⟨q0, q1, qP, qK, qD, qZ, qN⟩ := q; exact ⟨q0, q1, qP, va_K.moved (u := U) (U := U.calling g mk a) (Vm.Alike.refl U.vm) qK, qD, sF.moved (u := U) (U := U.calling g mk a) (Vm.Alike.refl U.vm) qZ, nF.same rfl qN⟩, va_recv hK hP (ci := 4) (q0 := a) rfl (wld_o ct ad G y50.1 hc hk (by decide)), fun U hU hW => ⟨rfl, by rw [hU], by rw [hU]; exact hP, va_K.moved hW.alike hK, hD.weaken (fun _ _ _ _ => trivial), by rw [hU]; exact ((hZ.kept hS.2.1).narrow hf9).moved hW.alike, hN.warm hW⟩⟩ rfl rfl hl.1 rfl (lv_room (Nat.le_of_ble_eq_true rfl)) dX4_movesApart_108 ⟨(Nat.zero_le _), (Nat.zero_le _)⟩) hS (fun q _ h => hf9 q h) hf9 (fun r u t H locs ht hvm hw hB hz1 hk1 hS => ?_)
            obtain ⟨hP, hK9, hD9⟩ := hB
            rw [ht] at hP
            try dsimp only at hw
            subst hw
            have hD := hD9.weaken (fun _ q _ h => hf9 q.1 h)
            obtain ⟨y58, hy58, hF⟩ := bnd_some hF
            have J58 : ∀ (H : Heap) (locs : List Loc) (ls : Array Slot), va_P D classes (wld ct ad G y57.1) H → va_D A (wld ct ad G y57.1) → va_S A s.heap H locs → lv_has ls 11 [(8, .int y10), (7, .int y9), (6, .int x8), (5, .int x6), (4, .int x5), (3, .int x3), (0, .ref (ad a)), (1, .int p0), (2, .int p1)] → W p l e (headSpec wuX4_movesApart ({ frames := 1, cells := 0, slots := 0, locals := 24 })).room s m ([.ref (ad a), .int p0, .int p1] : List Value).toArray below meth c H locs 0 0 (MQ below (va_Qi (fun (q : Int32) (_ : Unit) => q = y.2) (fun _ t => kE D ct ad G A y.1 t) A) ([.ref (ad a), .int p0, .int p1] : List Value).toArray s 0 0 A) (F0 m 119 ls [.int y58]) := by
              intro H locs ls hP hD hS hl
              obtain rfl := Option.some.inj hF
              exact J53 _ _ _ hP hD hS (lv_sub hl [0, 1, 2, 3, 4, 5, 6, 7, 8] rfl)
            clear hF
            have hF := hy58
            clear hy58
            refine lv_if_eq (tgt := 118) hx hb dX4_movesApart_111 (by decide) (fun c59 => ?_) (fun c59 => ?_)
            · rw [if_pos c59] at hF
              refine lv_iconst (v := (0 : Int32)) hx hb dX4_movesApart_118 (by decide) ?_
              obtain rfl := Option.some.inj hF
              exact J58 _ _ _ hP hD hS (lv_sub hl [0, 1, 2, 3, 4, 5, 6, 7, 8] rfl)
            · rw [if_neg c59] at hF
              refine lv_iconst (v := (1 : Int32)) hx hb dX4_movesApart_114 (by decide) ?_
              refine lv_goto (tgt := 119) hx hb dX4_movesApart_115 (by decide) ?_
              obtain rfl := Option.some.inj hF
              exact J58 _ _ _ hP hD hS (lv_sub hl [0, 1, 2, 3, 4, 5, 6, 7, 8] rfl)
    clear hF
    have hF := hy10
    clear hy10
    refine lv_icmp_ne (tgt := 76) hx hb dX4_movesApart_62 (by decide) (fun c60 => ?_) (fun c60 => ?_)
    · rw [if_neg c60] at hF
      refine lv_iconst (v := (0 : Int32)) hx hb dX4_movesApart_76 (by decide) ?_
      obtain rfl := Option.some.inj hF
      exact J10 _ _ _ hP hD hS (lv_sub hl [0, 1, 2, 3, 4, 5, 6, 7] rfl)
    · rw [if_pos c60] at hF
      refine lv_iload hx hb dX4_movesApart_65 (lv_at hl 3 rfl) ?_
      refine lv_iload hx hb dX4_movesApart_67 (lv_at hl 2 rfl) ?_
      obtain ⟨y61, hy61, hF⟩ := bnd_some hF
      have J61 : ∀ (H : Heap) (locs : List Loc) (ls : Array Slot), va_P D classes (wld ct ad G M) H → va_D A (wld ct ad G M) → va_S A s.heap H locs → lv_has ls 11 [(7, .int y9), (6, .int x8), (5, .int x6), (4, .int x5), (3, .int x3), (0, .ref (ad a)), (1, .int p0), (2, .int p1)] → W p l e (headSpec wuX4_movesApart ({ frames := 1, cells := 0, slots := 0, locals := 24 })).room s m ([.ref (ad a), .int p0, .int p1] : List Value).toArray below meth c H locs 0 0 (MQ below (va_Qi (fun (q : Int32) (_ : Unit) => q = y.2) (fun _ t => kE D ct ad G A y.1 t) A) ([.ref (ad a), .int p0, .int p1] : List Value).toArray s 0 0 A) (F0 m 77 ls [.int y61]) := by
        intro H locs ls hP hD hS hl
        obtain rfl := Option.some.inj hF
        exact J10 _ _ _ hP hD hS (lv_sub hl [0, 1, 2, 3, 4, 5, 6, 7] rfl)
      clear hF
      have hF := hy61
      clear hy61
      refine lv_icmp_ne (tgt := 76) hx hb dX4_movesApart_69 (by decide) (fun c62 => ?_) (fun c62 => ?_)
      · rw [if_neg c62] at hF
        refine lv_iconst (v := (0 : Int32)) hx hb dX4_movesApart_76 (by decide) ?_
        obtain rfl := Option.some.inj hF
        exact J61 _ _ _ hP hD hS (lv_sub hl [0, 1, 2, 3, 4, 5, 6, 7] rfl)
      · rw [if_pos c62] at hF
        refine lv_iconst (v := (1 : Int32)) hx hb dX4_movesApart_72 (by decide) ?_
        refine lv_goto (tgt := 77) hx hb dX4_movesApart_73 (by decide) ?_
        obtain rfl := Option.some.inj hF
        exact J61 _ _ _ hP hD hS (lv_sub hl [0, 1, 2, 3, 4, 5, 6, 7] rfl)
  clear hF
  have hF := hy9
  clear hy9
  refine lv_icmp_ne (tgt := 56) hx hb dX4_movesApart_42 (by decide) (fun c63 => ?_) (fun c63 => ?_)
  · rw [if_neg c63] at hF
    refine lv_iconst (v := (0 : Int32)) hx hb dX4_movesApart_56 (by decide) ?_
    obtain rfl := Option.some.inj hF
    exact J9 _ _ _ hP hD hS (lv_sub hl [0, 1, 2, 3, 4, 5, 6] rfl)
  · rw [if_pos c63] at hF
    refine lv_iload hx hb dX4_movesApart_45 (lv_at hl 2 rfl) ?_
    refine lv_iload hx hb dX4_movesApart_47 (lv_at hl 0 rfl) ?_
    obtain ⟨y64, hy64, hF⟩ := bnd_some hF
    have J64 : ∀ (H : Heap) (locs : List Loc) (ls : Array Slot), va_P D classes (wld ct ad G M) H → va_D A (wld ct ad G M) → va_S A s.heap H locs → lv_has ls 11 [(6, .int x8), (5, .int x6), (4, .int x5), (3, .int x3), (0, .ref (ad a)), (1, .int p0), (2, .int p1)] → W p l e (headSpec wuX4_movesApart ({ frames := 1, cells := 0, slots := 0, locals := 24 })).room s m ([.ref (ad a), .int p0, .int p1] : List Value).toArray below meth c H locs 0 0 (MQ below (va_Qi (fun (q : Int32) (_ : Unit) => q = y.2) (fun _ t => kE D ct ad G A y.1 t) A) ([.ref (ad a), .int p0, .int p1] : List Value).toArray s 0 0 A) (F0 m 57 ls [.int y64]) := by
      intro H locs ls hP hD hS hl
      obtain rfl := Option.some.inj hF
      exact J9 _ _ _ hP hD hS (lv_sub hl [0, 1, 2, 3, 4, 5, 6] rfl)
    clear hF
    have hF := hy64
    clear hy64
    refine lv_icmp_ne (tgt := 56) hx hb dX4_movesApart_49 (by decide) (fun c65 => ?_) (fun c65 => ?_)
    · rw [if_neg c65] at hF
      refine lv_iconst (v := (0 : Int32)) hx hb dX4_movesApart_56 (by decide) ?_
      obtain rfl := Option.some.inj hF
      exact J64 _ _ _ hP hD hS (lv_sub hl [0, 1, 2, 3, 4, 5, 6] rfl)
    · rw [if_pos c65] at hF
      refine lv_iconst (v := (1 : Int32)) hx hb dX4_movesApart_52 (by decide) ?_
      refine lv_goto (tgt := 57) hx hb dX4_movesApart_53 (by decide) ?_
      obtain rfl := Option.some.inj hF
      exact J64 _ _ _ hP hD hS (lv_sub hl [0, 1, 2, 3, 4, 5, 6] rfl)
theorem dX4_wide_0 : decode cX4_wide 0 = .ok (.iload_n 1, 1) := by decide +kernel
theorem dX4_wide_1 : decode cX4_wide 1 = .ok (.ifCond .ne 13, 3) := by decide +kernel
theorem dX4_wide_4 : decode cX4_wide 4 = .ok (.bipush 16, 2) := by decide +kernel
theorem dX4_wide_6 : decode cX4_wide 6 = .ok (.aload_n 0, 1) := by decide +kernel
theorem dX4_wide_7 : decode cX4_wide 7 = .ok (.getfield 33, 3) := by decide +kernel
theorem dX4_wide_10 : decode cX4_wide 10 = .ok (.imul, 1) := by decide +kernel
theorem dX4_wide_11 : decode cX4_wide 11 = .ok (.goto 10, 3) := by decide +kernel
theorem dX4_wide_14 : decode cX4_wide 14 = .ok (.bipush 8, 2) := by decide +kernel
theorem dX4_wide_16 : decode cX4_wide 16 = .ok (.aload_n 0, 1) := by decide +kernel
theorem dX4_wide_17 : decode cX4_wide 17 = .ok (.getfield 33, 3) := by decide +kernel
theorem dX4_wide_20 : decode cX4_wide 20 = .ok (.imul, 1) := by decide +kernel
theorem dX4_wide_21 : decode cX4_wide 21 = .ok (.ireturn, 1) := by decide +kernel
def FX4_wide (G : GG) (M : DD) (a : Nat) (p0 : Int32) : Option (DD × Int32) :=
  bnd (if p0 = ((0 : Int32)) then (ltt (M.1 a 1) fun x5 =>
  ltt ((((16 : Int32)) * x5)) fun x6 =>
  some (x6)) else
  (ltt (M.1 a 1) fun x3 =>
  ltt ((((8 : Int32)) * x3)) fun x4 =>
  some (x4))) fun (y1 : Int32) =>
  some (M, y1)
set_option maxHeartbeats 4000000 in
set_option maxRecDepth 100000 in
theorem kX4_wide (l : Launch) (D : va_G) (ct : CT) (ad : Nat → Nat) (Z : Nat → Nat) (G : GG) (M : DD) (sz : Nat) (a : Nat) (p0 : Int32) (y : DD × Int32) (hc : a < G.1) (hk : G.2.1 a = 4) (hF : FX4_wide G M a p0 = some y) : Met l yX4_wide wuX4_wide ({ frames := 0, cells := 0, slots := 0, locals := 0 }) (va_Pc [.ref (ad a), .int p0] (kB D ct ad Z G M sz)) (va_Qi (fun (q : Int32) (_ : Unit) => q = y.2) (fun _ t => kE D ct ad G (wA ad G sz) y.1 t) (wA ad G sz)) 0 0 (wA ad G sz) := by
  refine Met.ofW (cc := cX4_wide) (maxL := 2) (ret := (some .int)) (by decide) rfl ?_
  intro p e s m args below meth c s₁ B hml hv
  obtain ⟨rfl, hsz, hP, hK, hD0, hZ, hN⟩ := hv
  have hx := B.exec
  have hb := B.bytes
  have hr := B.returns
  have hts := atoms_spec (ws := wuX4_wide) B.pre
  have hown : s.vm.findClass RX4 = some m.cls := findClass_of_methodNamed B.named
  have hlocks := B.notSynchronized
  subst hsz
  have hD := wD_self (sz := s.heap.size) hD0
  have hA9 : ∀ q, s.heap.size ≤ q → wA ad G s.heap.size q := fun q h => Or.inr h
  generalize hAe : wA ad G s.heap.size = A at hD hA9 hZ ⊢
  have hS : va_S A s.heap s.heap [] := va_S.rf
  have hl := lv_entry ([.ref (ad a), .int p0]) (n := 2) (Nat.le_of_ble_eq_true rfl)
  rw [lg_entry_eq]
  generalize (lg_sl ([.ref (ad a), .int p0]) ++ List.replicate (2 - (lg_sl ([.ref (ad a), .int p0])).length) Slot.unset).toArray = ls at hl ⊢
  have hl : lv_has ls 2 [(0, .ref (ad a)), (1, .int p0)] := hl
  unfold FX4_wide at hF
  refine lv_iload_n hx hb dX4_wide_0 rfl (lv_at hl 1 rfl) ?_
  obtain ⟨y1, hy1, hF⟩ := bnd_some hF
  have J1 : ∀ (H : Heap) (locs : List Loc) (ls : Array Slot), va_P D classes (wld ct ad G M) H → va_D A (wld ct ad G M) → va_S A s.heap H locs → lv_has ls 2 [(0, .ref (ad a)), (1, .int p0)] → W p l e (headSpec wuX4_wide ({ frames := 0, cells := 0, slots := 0, locals := 0 })).room s m ([.ref (ad a), .int p0] : List Value).toArray below meth c H locs 0 0 (MQ below (va_Qi (fun (q : Int32) (_ : Unit) => q = y.2) (fun _ t => kE D ct ad G A y.1 t) A) ([.ref (ad a), .int p0] : List Value).toArray s 0 0 A) (F0 m 21 ls [.int y1]) := by
    intro H locs ls hP hD hS hl
    obtain rfl := Option.some.inj hF
    exact W.iret (v := y1) hx hb hr (fun t ht hW => ⟨⟨_, (), rfl, rfl, ⟨by rw [ht]; exact hP, va_K.moved hW.alike hK, hD⟩⟩, hS.F ht⟩) hS.2.2 dX4_wide_21
  clear hF
  have hF := hy1
  clear hy1
  refine lv_if_ne (tgt := 14) hx hb dX4_wide_1 (by decide) (fun c2 => ?_) (fun c2 => ?_)
  · rw [if_neg c2] at hF
    refine lv_bipush (v := (8 : Int32)) hx hb dX4_wide_14 (by decide) ?_
    refine lv_aload_n hx hb dX4_wide_16 rfl (lv_at hl 0 rfl) ?_
    refine va_get (D := D) (ci := 4) (v := .int (M.1 a 1)) (C := RX4) (T := TX4) (N := 18) hx hb hts (mus hf_X4) hown hK hP a (wld_o ct ad G M hc hk (by decide)) rfl 1 (by decide) (hts (.fieldLink RX4 33 "VideoSuite$Picture" "width" "I") (mu mw_1421)) (fun _ h9 => h9) rfl dX4_wide_17 ?_
    obtain ⟨x3, ex3, hF⟩ := ltt_some hF
    refine lv_topi (fun zx3 ezx3 => ?_)
    obtain rfl : x3 = zx3 := ex3.trans ezx3.symm
    refine lv_imul hx hb dX4_wide_20 ?_
    obtain ⟨x4, ex4, hF⟩ := ltt_some hF
    refine lv_topi (fun zx4 ezx4 => ?_)
    obtain rfl : x4 = zx4 := ex4.trans ezx4.symm
    obtain rfl := Option.some.inj hF
    exact J1 _ _ _ hP hD hS (lv_sub hl [0, 1] rfl)
  · rw [if_pos c2] at hF
    refine lv_bipush (v := (16 : Int32)) hx hb dX4_wide_4 (by decide) ?_
    refine lv_aload_n hx hb dX4_wide_6 rfl (lv_at hl 0 rfl) ?_
    refine va_get (D := D) (ci := 4) (v := .int (M.1 a 1)) (C := RX4) (T := TX4) (N := 18) hx hb hts (mus hf_X4) hown hK hP a (wld_o ct ad G M hc hk (by decide)) rfl 1 (by decide) (hts (.fieldLink RX4 33 "VideoSuite$Picture" "width" "I") (mu mw_1421)) (fun _ h9 => h9) rfl dX4_wide_7 ?_
    obtain ⟨x5, ex5, hF⟩ := ltt_some hF
    refine lv_topi (fun zx5 ezx5 => ?_)
    obtain rfl : x5 = zx5 := ex5.trans ezx5.symm
    refine lv_imul hx hb dX4_wide_10 ?_
    obtain ⟨x6, ex6, hF⟩ := ltt_some hF
    refine lv_topi (fun zx6 ezx6 => ?_)
    obtain rfl : x6 = zx6 := ex6.trans ezx6.symm
    refine lv_goto (tgt := 21) hx hb dX4_wide_11 (by decide) ?_
    obtain rfl := Option.some.inj hF
    exact J1 _ _ _ hP hD hS (lv_sub hl [0, 1] rfl)
theorem dX5_bit_0 : decode cX5_bit 0 = .ok (.iconst 0, 1) := by decide +kernel
theorem dX5_bit_1 : decode cX5_bit 1 = .ok (.istore_n 3, 1) := by decide +kernel
theorem dX5_bit_2 : decode cX5_bit 2 = .ok (.aload_n 0, 1) := by decide +kernel
theorem dX5_bit_3 : decode cX5_bit 3 = .ok (.getfield 66, 3) := by decide +kernel
theorem dX5_bit_6 : decode cX5_bit 6 = .ok (.ifCond .eq 169, 3) := by decide +kernel
theorem dX5_bit_9 : decode cX5_bit 9 = .ok (.bipush 16, 2) := by decide +kernel
theorem dX5_bit_11 : decode cX5_bit 11 = .ok (.iload_n 1, 1) := by decide +kernel
theorem dX5_bit_12 : decode cX5_bit 12 = .ok (.imul, 1) := by decide +kernel
theorem dX5_bit_13 : decode cX5_bit 13 = .ok (.iload_n 2, 1) := by decide +kernel
theorem dX5_bit_14 : decode cX5_bit 14 = .ok (.bipush 15, 2) := by decide +kernel
theorem dX5_bit_16 : decode cX5_bit 16 = .ok (.if_icmp .ge 7, 3) := by decide +kernel
theorem dX5_bit_19 : decode cX5_bit 19 = .ok (.iload_n 2, 1) := by decide +kernel
theorem dX5_bit_20 : decode cX5_bit 20 = .ok (.goto 5, 3) := by decide +kernel
theorem dX5_bit_23 : decode cX5_bit 23 = .ok (.bipush 15, 2) := by decide +kernel
theorem dX5_bit_25 : decode cX5_bit 25 = .ok (.iadd, 1) := by decide +kernel
theorem dX5_bit_26 : decode cX5_bit 26 = .ok (.istore 4, 2) := by decide +kernel
theorem dX5_bit_28 : decode cX5_bit 28 = .ok (.aload_n 0, 1) := by decide +kernel
theorem dX5_bit_29 : decode cX5_bit 29 = .ok (.getfield 11, 3) := by decide +kernel
theorem dX5_bit_32 : decode cX5_bit 32 = .ok (.iload 4, 2) := by decide +kernel
theorem dX5_bit_34 : decode cX5_bit 34 = .ok (.iaload, 1) := by decide +kernel
theorem dX5_bit_35 : decode cX5_bit 35 = .ok (.iconst 1, 1) := by decide +kernel
theorem dX5_bit_36 : decode cX5_bit 36 = .ok (.ishr, 1) := by decide +kernel
theorem dX5_bit_37 : decode cX5_bit 37 = .ok (.istore 5, 2) := by decide +kernel
theorem dX5_bit_39 : decode cX5_bit 39 = .ok (.aload_n 0, 1) := by decide +kernel
theorem dX5_bit_40 : decode cX5_bit 40 = .ok (.getfield 11, 3) := by decide +kernel
theorem dX5_bit_43 : decode cX5_bit 43 = .ok (.iload 4, 2) := by decide +kernel
theorem dX5_bit_45 : decode cX5_bit 45 = .ok (.iaload, 1) := by decide +kernel
theorem dX5_bit_46 : decode cX5_bit 46 = .ok (.iconst 1, 1) := by decide +kernel
theorem dX5_bit_47 : decode cX5_bit 47 = .ok (.iand, 1) := by decide +kernel
theorem dX5_bit_48 : decode cX5_bit 48 = .ok (.istore 6, 2) := by decide +kernel
theorem dX5_bit_50 : decode cX5_bit 50 = .ok (.getstatic 93, 3) := by decide +kernel
theorem dX5_bit_53 : decode cX5_bit 53 = .ok (.iconst 4, 1) := by decide +kernel
theorem dX5_bit_54 : decode cX5_bit 54 = .ok (.iload 5, 2) := by decide +kernel
theorem dX5_bit_56 : decode cX5_bit 56 = .ok (.imul, 1) := by decide +kernel
theorem dX5_bit_57 : decode cX5_bit 57 = .ok (.aload_n 0, 1) := by decide +kernel
theorem dX5_bit_58 : decode cX5_bit 58 = .ok (.getfield 96, 3) := by decide +kernel
theorem dX5_bit_61 : decode cX5_bit 61 = .ok (.bipush 6, 2) := by decide +kernel
theorem dX5_bit_63 : decode cX5_bit 63 = .ok (.ishr, 1) := by decide +kernel
theorem dX5_bit_64 : decode cX5_bit 64 = .ok (.iconst 3, 1) := by decide +kernel
theorem dX5_bit_65 : decode cX5_bit 65 = .ok (.iand, 1) := by decide +kernel
theorem dX5_bit_66 : decode cX5_bit 66 = .ok (.iadd, 1) := by decide +kernel
theorem dX5_bit_67 : decode cX5_bit 67 = .ok (.iaload, 1) := by decide +kernel
theorem dX5_bit_68 : decode cX5_bit 68 = .ok (.istore 7, 2) := by decide +kernel
theorem dX5_bit_70 : decode cX5_bit 70 = .ok (.iload 6, 2) := by decide +kernel
theorem dX5_bit_72 : decode cX5_bit 72 = .ok (.istore_n 3, 1) := by decide +kernel
theorem dX5_bit_73 : decode cX5_bit 73 = .ok (.aload_n 0, 1) := by decide +kernel
theorem dX5_bit_74 : decode cX5_bit 74 = .ok (.dup, 1) := by decide +kernel
theorem dX5_bit_75 : decode cX5_bit 75 = .ok (.getfield 96, 3) := by decide +kernel
theorem dX5_bit_78 : decode cX5_bit 78 = .ok (.iload 7, 2) := by decide +kernel
theorem dX5_bit_80 : decode cX5_bit 80 = .ok (.isub, 1) := by decide +kernel
theorem dX5_bit_81 : decode cX5_bit 81 = .ok (.putfield 96, 3) := by decide +kernel
theorem dX5_bit_84 : decode cX5_bit 84 = .ok (.aload_n 0, 1) := by decide +kernel
theorem dX5_bit_85 : decode cX5_bit 85 = .ok (.getfield 99, 3) := by decide +kernel
theorem dX5_bit_88 : decode cX5_bit 88 = .ok (.aload_n 0, 1) := by decide +kernel
theorem dX5_bit_89 : decode cX5_bit 89 = .ok (.getfield 96, 3) := by decide +kernel
theorem dX5_bit_92 : decode cX5_bit 92 = .ok (.if_icmp .ge 24, 3) := by decide +kernel
theorem dX5_bit_95 : decode cX5_bit 95 = .ok (.iload 5, 2) := by decide +kernel
theorem dX5_bit_97 : decode cX5_bit 97 = .ok (.bipush 62, 2) := by decide +kernel
theorem dX5_bit_99 : decode cX5_bit 99 = .ok (.if_icmp .ge 10, 3) := by decide +kernel
theorem dX5_bit_102 : decode cX5_bit 102 = .ok (.iload 5, 2) := by decide +kernel
theorem dX5_bit_104 : decode cX5_bit 104 = .ok (.iconst 1, 1) := by decide +kernel
theorem dX5_bit_105 : decode cX5_bit 105 = .ok (.iadd, 1) := by decide +kernel
theorem dX5_bit_106 : decode cX5_bit 106 = .ok (.goto 5, 3) := by decide +kernel
theorem dX5_bit_109 : decode cX5_bit 109 = .ok (.bipush 62, 2) := by decide +kernel
theorem dX5_bit_111 : decode cX5_bit 111 = .ok (.istore 5, 2) := by decide +kernel
theorem dX5_bit_113 : decode cX5_bit 113 = .ok (.goto 48, 3) := by decide +kernel
theorem dX5_bit_116 : decode cX5_bit 116 = .ok (.iconst 1, 1) := by decide +kernel
theorem dX5_bit_117 : decode cX5_bit 117 = .ok (.iload 6, 2) := by decide +kernel
theorem dX5_bit_119 : decode cX5_bit 119 = .ok (.isub, 1) := by decide +kernel
theorem dX5_bit_120 : decode cX5_bit 120 = .ok (.istore_n 3, 1) := by decide +kernel
theorem dX5_bit_121 : decode cX5_bit 121 = .ok (.aload_n 0, 1) := by decide +kernel
theorem dX5_bit_122 : decode cX5_bit 122 = .ok (.dup, 1) := by decide +kernel
theorem dX5_bit_123 : decode cX5_bit 123 = .ok (.getfield 99, 3) := by decide +kernel
theorem dX5_bit_126 : decode cX5_bit 126 = .ok (.aload_n 0, 1) := by decide +kernel
theorem dX5_bit_127 : decode cX5_bit 127 = .ok (.getfield 96, 3) := by decide +kernel
theorem dX5_bit_130 : decode cX5_bit 130 = .ok (.isub, 1) := by decide +kernel
theorem dX5_bit_131 : decode cX5_bit 131 = .ok (.putfield 99, 3) := by decide +kernel
theorem dX5_bit_134 : decode cX5_bit 134 = .ok (.aload_n 0, 1) := by decide +kernel
theorem dX5_bit_135 : decode cX5_bit 135 = .ok (.iload 7, 2) := by decide +kernel
theorem dX5_bit_137 : decode cX5_bit 137 = .ok (.putfield 96, 3) := by decide +kernel
theorem dX5_bit_140 : decode cX5_bit 140 = .ok (.iload 5, 2) := by decide +kernel
theorem dX5_bit_142 : decode cX5_bit 142 = .ok (.ifCond .ne 7, 3) := by decide +kernel
theorem dX5_bit_145 : decode cX5_bit 145 = .ok (.iload_n 3, 1) := by decide +kernel
theorem dX5_bit_146 : decode cX5_bit 146 = .ok (.goto 5, 3) := by decide +kernel
theorem dX5_bit_149 : decode cX5_bit 149 = .ok (.iload 6, 2) := by decide +kernel
theorem dX5_bit_151 : decode cX5_bit 151 = .ok (.istore 6, 2) := by decide +kernel
theorem dX5_bit_153 : decode cX5_bit 153 = .ok (.getstatic 102, 3) := by decide +kernel
theorem dX5_bit_156 : decode cX5_bit 156 = .ok (.iload 5, 2) := by decide +kernel
theorem dX5_bit_158 : decode cX5_bit 158 = .ok (.iaload, 1) := by decide +kernel
theorem dX5_bit_159 : decode cX5_bit 159 = .ok (.istore 5, 2) := by decide +kernel
theorem dX5_bit_161 : decode cX5_bit 161 = .ok (.aload_n 0, 1) := by decide +kernel
theorem dX5_bit_162 : decode cX5_bit 162 = .ok (.getfield 11, 3) := by decide +kernel
theorem dX5_bit_165 : decode cX5_bit 165 = .ok (.iload 4, 2) := by decide +kernel
theorem dX5_bit_167 : decode cX5_bit 167 = .ok (.iload 5, 2) := by decide +kernel
theorem dX5_bit_169 : decode cX5_bit 169 = .ok (.iconst 1, 1) := by decide +kernel
theorem dX5_bit_170 : decode cX5_bit 170 = .ok (.ishl, 1) := by decide +kernel
theorem dX5_bit_171 : decode cX5_bit 171 = .ok (.iload 6, 2) := by decide +kernel
theorem dX5_bit_173 : decode cX5_bit 173 = .ok (.ior, 1) := by decide +kernel
theorem dX5_bit_174 : decode cX5_bit 174 = .ok (.iastore, 1) := by decide +kernel
theorem dX5_bit_175 : decode cX5_bit 175 = .ok (.iconst 0, 1) := by decide +kernel
theorem dX5_bit_176 : decode cX5_bit 176 = .ok (.istore 4, 2) := by decide +kernel
theorem dX5_bit_178 : decode cX5_bit 178 = .ok (.iload 4, 2) := by decide +kernel
theorem dX5_bit_180 : decode cX5_bit 180 = .ok (.bipush 9, 2) := by decide +kernel
theorem dX5_bit_182 : decode cX5_bit 182 = .ok (.if_icmp .ge 157, 3) := by decide +kernel
theorem dX5_bit_185 : decode cX5_bit 185 = .ok (.aload_n 0, 1) := by decide +kernel
theorem dX5_bit_186 : decode cX5_bit 186 = .ok (.getfield 66, 3) := by decide +kernel
theorem dX5_bit_189 : decode cX5_bit 189 = .ok (.ifCond .eq 16, 3) := by decide +kernel
theorem dX5_bit_192 : decode cX5_bit 192 = .ok (.aload_n 0, 1) := by decide +kernel
theorem dX5_bit_193 : decode cX5_bit 193 = .ok (.getfield 96, 3) := by decide +kernel
theorem dX5_bit_196 : decode cX5_bit 196 = .ok (.sipush 256, 3) := by decide +kernel
theorem dX5_bit_199 : decode cX5_bit 199 = .ok (.if_icmp .ge 140, 3) := by decide +kernel
theorem dX5_bit_202 : decode cX5_bit 202 = .ok (.goto 9, 3) := by decide +kernel
theorem dX5_bit_205 : decode cX5_bit 205 = .ok (.iload 4, 2) := by decide +kernel
theorem dX5_bit_207 : decode cX5_bit 207 = .ok (.iconst 1, 1) := by decide +kernel
theorem dX5_bit_208 : decode cX5_bit 208 = .ok (.if_icmp .ge 131, 3) := by decide +kernel
theorem dX5_bit_211 : decode cX5_bit 211 = .ok (.aload_n 0, 1) := by decide +kernel
theorem dX5_bit_212 : decode cX5_bit 212 = .ok (.getfield 57, 3) := by decide +kernel
theorem dX5_bit_215 : decode cX5_bit 215 = .ok (.aload_n 0, 1) := by decide +kernel
theorem dX5_bit_216 : decode cX5_bit 216 = .ok (.getfield 47, 3) := by decide +kernel
theorem dX5_bit_219 : decode cX5_bit 219 = .ok (.if_icmp .lt 40, 3) := by decide +kernel
theorem dX5_bit_222 : decode cX5_bit 222 = .ok (.aload_n 0, 1) := by decide +kernel
theorem dX5_bit_223 : decode cX5_bit 223 = .ok (.iconst 1, 1) := by decide +kernel
theorem dX5_bit_224 : decode cX5_bit 224 = .ok (.putfield 76, 3) := by decide +kernel
theorem dX5_bit_227 : decode cX5_bit 227 = .ok (.aload_n 0, 1) := by decide +kernel
theorem dX5_bit_228 : decode cX5_bit 228 = .ok (.aload_n 0, 1) := by decide +kernel
theorem dX5_bit_229 : decode cX5_bit 229 = .ok (.getfield 70, 3) := by decide +kernel
theorem dX5_bit_232 : decode cX5_bit 232 = .ok (.ifCond .eq 10, 3) := by decide +kernel
theorem dX5_bit_235 : decode cX5_bit 235 = .ok (.aload_n 0, 1) := by decide +kernel
theorem dX5_bit_236 : decode cX5_bit 236 = .ok (.getfield 57, 3) := by decide +kernel
theorem dX5_bit_239 : decode cX5_bit 239 = .ok (.goto 7, 3) := by decide +kernel
theorem dX5_bit_242 : decode cX5_bit 242 = .ok (.aload_n 0, 1) := by decide +kernel
theorem dX5_bit_243 : decode cX5_bit 243 = .ok (.getfield 60, 3) := by decide +kernel
theorem dX5_bit_246 : decode cX5_bit 246 = .ok (.putfield 79, 3) := by decide +kernel
theorem dX5_bit_249 : decode cX5_bit 249 = .ok (.new 82, 3) := by decide +kernel
theorem dX5_bit_252 : decode cX5_bit 252 = .ok (.dup, 1) := by decide +kernel
theorem dX5_bit_253 : decode cX5_bit 253 = .ok (.ldc 105, 2) := by decide +kernel
theorem dX5_bit_255 : decode cX5_bit 255 = .ok (.invokespecial 86, 3) := by decide +kernel
theorem dX5_bit_258 : decode cX5_bit 258 = .ok (.athrow, 1) := by decide +kernel
theorem dX5_bit_259 : decode cX5_bit 259 = .ok (.aload_n 0, 1) := by decide +kernel
theorem dX5_bit_260 : decode cX5_bit 260 = .ok (.getfield 40, 3) := by decide +kernel
theorem dX5_bit_263 : decode cX5_bit 263 = .ok (.iconst 1, 1) := by decide +kernel
theorem dX5_bit_264 : decode cX5_bit 264 = .ok (.aload_n 0, 1) := by decide +kernel
theorem dX5_bit_265 : decode cX5_bit 265 = .ok (.getfield 57, 3) := by decide +kernel
theorem dX5_bit_268 : decode cX5_bit 268 = .ok (.iconst 3, 1) := by decide +kernel
theorem dX5_bit_269 : decode cX5_bit 269 = .ok (.ishr, 1) := by decide +kernel
theorem dX5_bit_270 : decode cX5_bit 270 = .ok (.iadd, 1) := by decide +kernel
theorem dX5_bit_271 : decode cX5_bit 271 = .ok (.baload, 1) := by decide +kernel
theorem dX5_bit_272 : decode cX5_bit 272 = .ok (.bipush 7, 2) := by decide +kernel
theorem dX5_bit_274 : decode cX5_bit 274 = .ok (.aload_n 0, 1) := by decide +kernel
theorem dX5_bit_275 : decode cX5_bit 275 = .ok (.getfield 57, 3) := by decide +kernel
theorem dX5_bit_278 : decode cX5_bit 278 = .ok (.bipush 7, 2) := by decide +kernel
theorem dX5_bit_280 : decode cX5_bit 280 = .ok (.iand, 1) := by decide +kernel
theorem dX5_bit_281 : decode cX5_bit 281 = .ok (.isub, 1) := by decide +kernel
theorem dX5_bit_282 : decode cX5_bit 282 = .ok (.ishr, 1) := by decide +kernel
theorem dX5_bit_283 : decode cX5_bit 283 = .ok (.iconst 1, 1) := by decide +kernel
theorem dX5_bit_284 : decode cX5_bit 284 = .ok (.iand, 1) := by decide +kernel
theorem dX5_bit_285 : decode cX5_bit 285 = .ok (.istore 5, 2) := by decide +kernel
theorem dX5_bit_287 : decode cX5_bit 287 = .ok (.aload_n 0, 1) := by decide +kernel
theorem dX5_bit_288 : decode cX5_bit 288 = .ok (.dup, 1) := by decide +kernel
theorem dX5_bit_289 : decode cX5_bit 289 = .ok (.getfield 57, 3) := by decide +kernel
theorem dX5_bit_292 : decode cX5_bit 292 = .ok (.iconst 1, 1) := by decide +kernel
theorem dX5_bit_293 : decode cX5_bit 293 = .ok (.iadd, 1) := by decide +kernel
theorem dX5_bit_294 : decode cX5_bit 294 = .ok (.putfield 57, 3) := by decide +kernel
theorem dX5_bit_297 : decode cX5_bit 297 = .ok (.aload_n 0, 1) := by decide +kernel
theorem dX5_bit_298 : decode cX5_bit 298 = .ok (.getfield 66, 3) := by decide +kernel
theorem dX5_bit_301 : decode cX5_bit 301 = .ok (.ifCond .eq 29, 3) := by decide +kernel
theorem dX5_bit_304 : decode cX5_bit 304 = .ok (.aload_n 0, 1) := by decide +kernel
theorem dX5_bit_305 : decode cX5_bit 305 = .ok (.dup, 1) := by decide +kernel
theorem dX5_bit_306 : decode cX5_bit 306 = .ok (.getfield 96, 3) := by decide +kernel
theorem dX5_bit_309 : decode cX5_bit 309 = .ok (.iconst 1, 1) := by decide +kernel
theorem dX5_bit_310 : decode cX5_bit 310 = .ok (.ishl, 1) := by decide +kernel
theorem dX5_bit_311 : decode cX5_bit 311 = .ok (.putfield 96, 3) := by decide +kernel
theorem dX5_bit_314 : decode cX5_bit 314 = .ok (.aload_n 0, 1) := by decide +kernel
theorem dX5_bit_315 : decode cX5_bit 315 = .ok (.aload_n 0, 1) := by decide +kernel
theorem dX5_bit_316 : decode cX5_bit 316 = .ok (.getfield 99, 3) := by decide +kernel
theorem dX5_bit_319 : decode cX5_bit 319 = .ok (.iconst 1, 1) := by decide +kernel
theorem dX5_bit_320 : decode cX5_bit 320 = .ok (.ishl, 1) := by decide +kernel
theorem dX5_bit_321 : decode cX5_bit 321 = .ok (.iload 5, 2) := by decide +kernel
theorem dX5_bit_323 : decode cX5_bit 323 = .ok (.ior, 1) := by decide +kernel
theorem dX5_bit_324 : decode cX5_bit 324 = .ok (.putfield 99, 3) := by decide +kernel
theorem dX5_bit_327 : decode cX5_bit 327 = .ok (.goto 6, 3) := by decide +kernel
theorem dX5_bit_330 : decode cX5_bit 330 = .ok (.iload 5, 2) := by decide +kernel
theorem dX5_bit_332 : decode cX5_bit 332 = .ok (.istore_n 3, 1) := by decide +kernel
theorem dX5_bit_333 : decode cX5_bit 333 = .ok (.iinc 4 1, 3) := by decide +kernel
theorem dX5_bit_336 : decode cX5_bit 336 = .ok (.goto (-158), 3) := by decide +kernel
theorem dX5_bit_339 : decode cX5_bit 339 = .ok (.iload_n 3, 1) := by decide +kernel
theorem dX5_bit_340 : decode cX5_bit 340 = .ok (.ireturn, 1) := by decide +kernel
def FX5_bit (G : GG) (M : DD) (a : Nat) (p0 : Int32) (p1 : Int32) : Option (DD × Int32) :=
  ltt (M.1 a 6) fun x1 =>
  bnd (if x1 = ((0 : Int32)) then (some ((0 : Int32), M)) else
  (ltt ((((16 : Int32)) * p0)) fun x84 =>
  bnd (if ((15 : Int32)) ≤ p1 then (some ((15 : Int32))) else
  (some (p1))) fun (y85 : Int32) =>
  ltt ((x84 + y85)) fun x86 =>
  dr G 13 ((M.2 a 10)) fun b87 =>
  chk (¬ (x86 < 0 ∨ G.2.2 b87 ≤ x86.toNatClampNeg)) <|
  ltt (M.1 b87 x86.toNatClampNeg) fun x88 =>
  ltt ((x88 >>> (((1 : Int32)) &&& 31))) fun x89 =>
  chk (¬ (x86 < 0 ∨ G.2.2 b87 ≤ x86.toNatClampNeg)) <|
  ltt (M.1 b87 x86.toNatClampNeg) fun x90 =>
  ltt ((x90 &&& ((1 : Int32)))) fun x91 =>
  ltt ((((4 : Int32)) * x89)) fun x92 =>
  ltt (M.1 a 8) fun x93 =>
  ltt ((x93 >>> (((6 : Int32)) &&& 31))) fun x94 =>
  ltt ((x94 &&& ((3 : Int32)))) fun x95 =>
  ltt ((x92 + x95)) fun x96 =>
  chk (¬ (x96 < 0 ∨ 256 ≤ x96.toNatClampNeg)) <|
  ltt ((sT 8).getD x96.toNatClampNeg 0) fun x97 =>
  ltt (M.1 a 8) fun x98 =>
  ltt ((x98 - x97)) fun x99 =>
  ltt (uI M a 8 x99) fun M100 =>
  ltt (M100.1 a 9) fun x101 =>
  ltt (M100.1 a 8) fun x102 =>
  bnd (if x102 ≤ x101 then (ltt ((((1 : Int32)) - x91)) fun x109 =>
  ltt (M100.1 a 9) fun x110 =>
  ltt (M100.1 a 8) fun x111 =>
  ltt ((x110 - x111)) fun x112 =>
  ltt (uI M100 a 9 x112) fun M113 =>
  ltt (uI M113 a 8 x97) fun M114 =>
  bnd (if x89 = ((0 : Int32)) then (some (x109)) else
  (some (x91))) fun (y115 : Int32) =>
  chk (¬ (x89 < 0 ∨ 64 ≤ x89.toNatClampNeg)) <|
  ltt ((sT 7).getD x89.toNatClampNeg 0) fun x116 =>
  some (x109, x116, y115, M114)) else
  (bnd (if ((62 : Int32)) ≤ x89 then (some ((62 : Int32))) else
  (ltt ((x89 + ((1 : Int32)))) fun x120 =>
  some (x120))) fun (y118 : Int32) =>
  some (x91, y118, x91, M100))) fun (y103 : Int32 × Int32 × Int32 × DD) =>
  ltt ((y103.2.1 <<< (((1 : Int32)) &&& 31))) fun x104 =>
  ltt ((x104 ||| y103.2.2.1)) fun x105 =>
  dr G 13 ((y103.2.2.2.2 a 10)) fun b106 =>
  chk (¬ (x86 < 0 ∨ G.2.2 b106 ≤ x86.toNatClampNeg)) <|
  ltt (uI y103.2.2.2 b106 x86.toNatClampNeg x105) fun M107 =>
  some (y103.1, M107))) fun (y2 : Int32 × DD) =>
  bnd (itr (fun (s4 : Int32 × Int32 × DD) => ((if ((9 : Int32)) ≤ s4.2.1 then (some (.inr (s4.1, s4.2.1, s4.2.2))) else
  (ltt (s4.2.2.1 a 6) fun x8 =>
  if x8 = ((0 : Int32)) then (if ((1 : Int32)) ≤ s4.2.1 then (some (.inr (s4.1, s4.2.1, s4.2.2))) else
  (ltt (s4.2.2.1 a 2) fun x11 =>
  ltt (s4.2.2.1 a 1) fun x12 =>
  bnd (if x11 < x12 then (some (s4.2.2)) else
  (ltt (uI s4.2.2 a 15 ((1 : Int32))) fun M39 =>
  ltt (M39.1 a 7) fun x40 =>
  bnd (if x40 = ((0 : Int32)) then (ltt (M39.1 a 4) fun x44 =>
  some (x44)) else
  (ltt (M39.1 a 2) fun x45 =>
  some (x45))) fun (y41 : Int32) =>
  ltt (uI M39 a 16 y41) fun M42 =>
  none)) fun (y13 : DD) =>
  ltt (y13.1 a 2) fun x14 =>
  ltt ((x14 >>> (((3 : Int32)) &&& 31))) fun x15 =>
  ltt ((((1 : Int32)) + x15)) fun x16 =>
  dr G 12 ((y13.2 a 0)) fun b17 =>
  chk (¬ (x16 < 0 ∨ G.2.2 b17 ≤ x16.toNatClampNeg)) <|
  ltt (y13.1 b17 x16.toNatClampNeg) fun x18 =>
  ltt (y13.1 a 2) fun x19 =>
  ltt ((x19 &&& ((7 : Int32)))) fun x20 =>
  ltt ((((7 : Int32)) - x20)) fun x21 =>
  ltt ((x18 >>> (x21 &&& 31))) fun x22 =>
  ltt ((x22 &&& ((1 : Int32)))) fun x23 =>
  ltt (y13.1 a 2) fun x24 =>
  ltt ((x24 + ((1 : Int32)))) fun x25 =>
  ltt (uI y13 a 2 x25) fun M26 =>
  ltt (M26.1 a 6) fun x27 =>
  bnd (if x27 = ((0 : Int32)) then (some (x23, M26)) else
  (ltt (M26.1 a 8) fun x31 =>
  ltt ((x31 <<< (((1 : Int32)) &&& 31))) fun x32 =>
  ltt (uI M26 a 8 x32) fun M33 =>
  ltt (M33.1 a 9) fun x34 =>
  ltt ((x34 <<< (((1 : Int32)) &&& 31))) fun x35 =>
  ltt ((x35 ||| x23)) fun x36 =>
  ltt (uI M33 a 9 x36) fun M37 =>
  some (s4.1, M37))) fun (y28 : Int32 × DD) =>
  ltt (s4.2.1 + (1 : Int32)) fun x29 =>
  some (.inl (y28.1, x29, y28.2)))) else
  (ltt (s4.2.2.1 a 8) fun x46 =>
  if ((256 : Int32)) ≤ x46 then (some (.inr (s4.1, s4.2.1, s4.2.2))) else
  (ltt (s4.2.2.1 a 2) fun x48 =>
  ltt (s4.2.2.1 a 1) fun x49 =>
  bnd (if x48 < x49 then (some (s4.2.2)) else
  (ltt (uI s4.2.2 a 15 ((1 : Int32))) fun M76 =>
  ltt (M76.1 a 7) fun x77 =>
  bnd (if x77 = ((0 : Int32)) then (ltt (M76.1 a 4) fun x81 =>
  some (x81)) else
  (ltt (M76.1 a 2) fun x82 =>
  some (x82))) fun (y78 : Int32) =>
  ltt (uI M76 a 16 y78) fun M79 =>
  none)) fun (y50 : DD) =>
  ltt (y50.1 a 2) fun x51 =>
  ltt ((x51 >>> (((3 : Int32)) &&& 31))) fun x52 =>
  ltt ((((1 : Int32)) + x52)) fun x53 =>
  dr G 12 ((y50.2 a 0)) fun b54 =>
  chk (¬ (x53 < 0 ∨ G.2.2 b54 ≤ x53.toNatClampNeg)) <|
  ltt (y50.1 b54 x53.toNatClampNeg) fun x55 =>
  ltt (y50.1 a 2) fun x56 =>
  ltt ((x56 &&& ((7 : Int32)))) fun x57 =>
  ltt ((((7 : Int32)) - x57)) fun x58 =>
  ltt ((x55 >>> (x58 &&& 31))) fun x59 =>
  ltt ((x59 &&& ((1 : Int32)))) fun x60 =>
  ltt (y50.1 a 2) fun x61 =>
  ltt ((x61 + ((1 : Int32)))) fun x62 =>
  ltt (uI y50 a 2 x62) fun M63 =>
  ltt (M63.1 a 6) fun x64 =>
  bnd (if x64 = ((0 : Int32)) then (some (x60, M63)) else
  (ltt (M63.1 a 8) fun x68 =>
  ltt ((x68 <<< (((1 : Int32)) &&& 31))) fun x69 =>
  ltt (uI M63 a 8 x69) fun M70 =>
  ltt (M70.1 a 9) fun x71 =>
  ltt ((x71 <<< (((1 : Int32)) &&& 31))) fun x72 =>
  ltt ((x72 ||| x60)) fun x73 =>
  ltt (uI M70 a 9 x73) fun M74 =>
  some (s4.1, M74))) fun (y65 : Int32 × DD) =>
  ltt (s4.2.1 + (1 : Int32)) fun x66 =>
  some (.inl (y65.1, x66, y65.2)))))) : Option ((Int32 × Int32 × DD) ⊕ (Int32 × Int32 × DD)))) 1000000 (y2.1, (0 : Int32), y2.2)) fun (y3 : Int32 × Int32 × DD) =>
  some (y3.2.2, y3.1)
set_option maxHeartbeats 4000000 in
set_option maxRecDepth 100000 in
theorem kX5_bit (l : Launch) (D : va_G) (ct : CT) (ad : Nat → Nat) (Z : Nat → Nat) (G : GG) (M : DD) (sz : Nat) (a : Nat) (p0 : Int32) (p1 : Int32) (y : DD × Int32) (hc : a < G.1) (hk : G.2.1 a = 5) (hF : FX5_bit G M a p0 p1 = some y) : Met l yX5_bit wuX5_bit ({ frames := 0, cells := 0, slots := 0, locals := 0 }) (va_Pc [.ref (ad a), .int p0, .int p1] (kB D ct ad Z G M sz)) (va_Qi (fun (q : Int32) (_ : Unit) => q = y.2) (fun _ t => kE D ct ad G (wA ad G sz) y.1 t) (wA ad G sz)) 0 0 (wA ad G sz) := by
  refine Met.ofW (cc := cX5_bit) (maxL := 8) (ret := (some .int)) (by decide) rfl ?_
  intro p e s m args below meth c s₁ B hml hv
  obtain ⟨rfl, hsz, hP, hK, hD0, hZ, hN⟩ := hv
  have hx := B.exec
  have hb := B.bytes
  have hr := B.returns
  have hts := atoms_spec (ws := wuX5_bit) B.pre
  have hown : s.vm.findClass RX5 = some m.cls := findClass_of_methodNamed B.named
  have hlocks := B.notSynchronized
  subst hsz
  have hD := wD_self (sz := s.heap.size) hD0
  have hA9 : ∀ q, s.heap.size ≤ q → wA ad G s.heap.size q := fun q h => Or.inr h
  generalize hAe : wA ad G s.heap.size = A at hD hA9 hZ ⊢
  have hS : va_S A s.heap s.heap [] := va_S.rf
  have hl := lv_entry ([.ref (ad a), .int p0, .int p1]) (n := 8) (Nat.le_of_ble_eq_true rfl)
  rw [lg_entry_eq]
  generalize (lg_sl ([.ref (ad a), .int p0, .int p1]) ++ List.replicate (8 - (lg_sl ([.ref (ad a), .int p0, .int p1])).length) Slot.unset).toArray = ls at hl ⊢
  have hl : lv_has ls 8 [(0, .ref (ad a)), (1, .int p0), (2, .int p1)] := hl
  unfold FX5_bit at hF
  refine lv_iconst (v := (0 : Int32)) hx hb dX5_bit_0 (by decide) ?_
  refine lv_istore_n (lv' := [(3, .int (0 : Int32)), (0, .ref (ad a)), (1, .int p0), (2, .int p1)]) hx hb dX5_bit_1 rfl hl (by decide) rfl (fun ls hl => ?_)
  refine lv_aload_n hx hb dX5_bit_2 rfl (lv_at hl 1 rfl) ?_
  refine va_get (D := D) (ci := 5) (v := .int (M.1 a 6)) (C := RX5) (T := TX5) (N := 17) hx hb hts (mus hf_X5) hown hK hP a (wld_o ct ad G M hc hk (by decide)) rfl 6 (by decide) (hts (.fieldLink RX5 66 "VideoSuite$Reader" "arith" "Z") (mu mw_295)) (fun _ h9 => h9) rfl dX5_bit_3 ?_
  obtain ⟨x1, ex1, hF⟩ := ltt_some hF
  refine lv_topi (fun zx1 ezx1 => ?_)
  obtain rfl : x1 = zx1 := ex1.trans ezx1.symm
  obtain ⟨y2, hy2, hF⟩ := bnd_some hF
  have J2 : ∀ (H : Heap) (locs : List Loc) (ls : Array Slot), va_P D classes (wld ct ad G y2.2) H → va_D A (wld ct ad G y2.2) → va_S A s.heap H locs → lv_has ls 8 [(3, .int y2.1), (0, .ref (ad a)), (1, .int p0), (2, .int p1)] → W p l e (headSpec wuX5_bit ({ frames := 0, cells := 0, slots := 0, locals := 0 })).room s m ([.ref (ad a), .int p0, .int p1] : List Value).toArray below meth c H locs 0 0 (MQ below (va_Qi (fun (q : Int32) (_ : Unit) => q = y.2) (fun _ t => kE D ct ad G A y.1 t) A) ([.ref (ad a), .int p0, .int p1] : List Value).toArray s 0 0 A) (F0 m 175 ls []) := by
    intro H locs ls hP hD hS hl
    refine lv_iconst (v := (0 : Int32)) hx hb dX5_bit_175 (by decide) ?_
    refine lv_istore (lv' := [(4, .int (0 : Int32)), (3, .int y2.1), (0, .ref (ad a)), (1, .int p0), (2, .int p1)]) hx hb dX5_bit_176 hl (by decide) rfl (fun ls hl => ?_)
    obtain ⟨y3, hy3, hF⟩ := bnd_some hF
    have K3 : ∀ (H : Heap) (locs : List Loc) (ls : Array Slot), va_P D classes (wld ct ad G y3.2.2) H → va_D A (wld ct ad G y3.2.2) → va_S A s.heap H locs → lv_has ls 8 [(4, .int y3.2.1), (3, .int y3.1), (0, .ref (ad a)), (1, .int p0), (2, .int p1)] → W p l e (headSpec wuX5_bit ({ frames := 0, cells := 0, slots := 0, locals := 0 })).room s m ([.ref (ad a), .int p0, .int p1] : List Value).toArray below meth c H locs 0 0 (MQ below (va_Qi (fun (q : Int32) (_ : Unit) => q = y.2) (fun _ t => kE D ct ad G A y.1 t) A) ([.ref (ad a), .int p0, .int p1] : List Value).toArray s 0 0 A) (F0 m 339 ls []) := by
      intro H locs ls hP hD hS hl
      refine lv_iload_n hx hb dX5_bit_339 rfl (lv_at hl 1 rfl) ?_
      obtain rfl := Option.some.inj hF
      exact W.iret (v := y3.1) hx hb hr (fun t ht hW => ⟨⟨_, (), rfl, rfl, ⟨by rw [ht]; exact hP, va_K.moved hW.alike hK, hD⟩⟩, hS.F ht⟩) hS.2.2 dX5_bit_340
    clear hF
    refine itr_rule (fun (s4 : Int32 × Int32 × DD) => ∀ (H : Heap) (locs : List Loc) (ls : Array Slot), va_P D classes (wld ct ad G s4.2.2) H → va_D A (wld ct ad G s4.2.2) → va_S A s.heap H locs → lv_has ls 8 [(4, .int s4.2.1), (3, .int s4.1), (0, .ref (ad a)), (1, .int p0), (2, .int p1)] → W p l e (headSpec wuX5_bit ({ frames := 0, cells := 0, slots := 0, locals := 0 })).room s m ([.ref (ad a), .int p0, .int p1] : List Value).toArray below meth c H locs 0 0 (MQ below (va_Qi (fun (q : Int32) (_ : Unit) => q = y.2) (fun _ t => kE D ct ad G A y.1 t) A) ([.ref (ad a), .int p0, .int p1] : List Value).toArray s 0 0 A) (F0 m 178 ls [])) ?_ _ _ hy3 _ _ _ hP hD hS (lv_sub hl [0, 1, 2, 3, 4] rfl)
    rintro s4 ⟨z6, hF, hwz6⟩ H locs ls hP hD hS hl
    try dsimp only at hF
    refine lv_iload hx hb dX5_bit_178 (lv_at hl 0 rfl) ?_
    refine lv_bipush (v := (9 : Int32)) hx hb dX5_bit_180 (by decide) ?_
    refine lv_icmp_ge (tgt := 339) hx hb dX5_bit_182 (by decide) (fun c7 => ?_) (fun c7 => ?_)
    · rw [if_pos c7] at hF
      obtain rfl := Option.some.inj hF
      subst hwz6
      exact K3 _ _ _ hP hD hS (lv_sub hl [0, 1, 2, 3, 4] rfl)
    · rw [if_neg c7] at hF
      refine lv_aload_n hx hb dX5_bit_185 rfl (lv_at hl 2 rfl) ?_
      refine va_get (D := D) (ci := 5) (v := .int (s4.2.2.1 a 6)) (C := RX5) (T := TX5) (N := 17) hx hb hts (mus hf_X5) hown hK hP a (wld_o ct ad G s4.2.2 hc hk (by decide)) rfl 6 (by decide) (hts (.fieldLink RX5 66 "VideoSuite$Reader" "arith" "Z") (mu mw_295)) (fun _ h9 => h9) rfl dX5_bit_186 ?_
      obtain ⟨x8, ex8, hF⟩ := ltt_some hF
      refine lv_topi (fun zx8 ezx8 => ?_)
      obtain rfl : x8 = zx8 := ex8.trans ezx8.symm
      refine lv_if_eq (tgt := 205) hx hb dX5_bit_189 (by decide) (fun c9 => ?_) (fun c9 => ?_)
      · rw [if_pos c9] at hF
        refine lv_iload hx hb dX5_bit_205 (lv_at hl 0 rfl) ?_
        refine lv_iconst (v := (1 : Int32)) hx hb dX5_bit_207 (by decide) ?_
        refine lv_icmp_ge (tgt := 339) hx hb dX5_bit_208 (by decide) (fun c10 => ?_) (fun c10 => ?_)
        · rw [if_pos c10] at hF
          obtain rfl := Option.some.inj hF
          subst hwz6
          exact K3 _ _ _ hP hD hS (lv_sub hl [0, 1, 2, 3, 4] rfl)
        · rw [if_neg c10] at hF
          refine lv_aload_n hx hb dX5_bit_211 rfl (lv_at hl 2 rfl) ?_
          refine va_get (D := D) (ci := 5) (v := .int (s4.2.2.1 a 2)) (C := RX5) (T := TX5) (N := 17) hx hb hts (mus hf_X5) hown hK hP a (wld_o ct ad G s4.2.2 hc hk (by decide)) rfl 2 (by decide) (hts (.fieldLink RX5 57 "VideoSuite$Reader" "place" "I") (mu mw_289)) (fun _ h9 => h9) rfl dX5_bit_212 ?_
          obtain ⟨x11, ex11, hF⟩ := ltt_some hF
          refine lv_topi (fun zx11 ezx11 => ?_)
          obtain rfl : x11 = zx11 := ex11.trans ezx11.symm
          refine lv_aload_n hx hb dX5_bit_215 rfl (lv_at hl 2 rfl) ?_
          refine va_get (D := D) (ci := 5) (v := .int (s4.2.2.1 a 1)) (C := RX5) (T := TX5) (N := 17) hx hb hts (mus hf_X5) hown hK hP a (wld_o ct ad G s4.2.2 hc hk (by decide)) rfl 1 (by decide) (hts (.fieldLink RX5 47 "VideoSuite$Reader" "total" "I") (mu mw_288)) (fun _ h9 => h9) rfl dX5_bit_216 ?_
          obtain ⟨x12, ex12, hF⟩ := ltt_some hF
          refine lv_topi (fun zx12 ezx12 => ?_)
          obtain rfl : x12 = zx12 := ex12.trans ezx12.symm
          obtain ⟨y13, hy13, hF⟩ := bnd_some hF
          have J13 : ∀ (H : Heap) (locs : List Loc) (ls : Array Slot), va_P D classes (wld ct ad G y13) H → va_D A (wld ct ad G y13) → va_S A s.heap H locs → lv_has ls 8 [(4, .int s4.2.1), (3, .int s4.1), (0, .ref (ad a)), (1, .int p0), (2, .int p1)] → W p l e (headSpec wuX5_bit ({ frames := 0, cells := 0, slots := 0, locals := 0 })).room s m ([.ref (ad a), .int p0, .int p1] : List Value).toArray below meth c H locs 0 0 (MQ below (va_Qi (fun (q : Int32) (_ : Unit) => q = y.2) (fun _ t => kE D ct ad G A y.1 t) A) ([.ref (ad a), .int p0, .int p1] : List Value).toArray s 0 0 A) (F0 m 259 ls []) := by
            intro H locs ls hP hD hS hl
            refine lv_aload_n hx hb dX5_bit_259 rfl (lv_at hl 2 rfl) ?_
            refine va_get (D := D) (ci := 5) (v := va_re ad (y13.2 a 0)) (C := RX5) (T := TX5) (N := 17) hx hb hts (mus hf_X5) hown hK hP a (wld_o ct ad G y13 hc hk (by decide)) rfl 0 (by decide) (hts (.fieldLink RX5 40 "VideoSuite$Reader" "data" "[B") (mu mw_287)) (fun _ h9 => h9) rfl dX5_bit_260 ?_
            refine lv_iconst (v := (1 : Int32)) hx hb dX5_bit_263 (by decide) ?_
            refine lv_aload_n hx hb dX5_bit_264 rfl (lv_at hl 2 rfl) ?_
            refine va_get (D := D) (ci := 5) (v := .int (y13.1 a 2)) (C := RX5) (T := TX5) (N := 17) hx hb hts (mus hf_X5) hown hK hP a (wld_o ct ad G y13 hc hk (by decide)) rfl 2 (by decide) (hts (.fieldLink RX5 57 "VideoSuite$Reader" "place" "I") (mu mw_289)) (fun _ h9 => h9) rfl dX5_bit_265 ?_
            obtain ⟨x14, ex14, hF⟩ := ltt_some hF
            refine lv_topi (fun zx14 ezx14 => ?_)
            obtain rfl : x14 = zx14 := ex14.trans ezx14.symm
            refine lv_iconst (v := (3 : Int32)) hx hb dX5_bit_268 (by decide) ?_
            refine lv_ishr hx hb dX5_bit_269 ?_
            obtain ⟨x15, ex15, hF⟩ := ltt_some hF
            refine lv_topi (fun zx15 ezx15 => ?_)
            obtain rfl : x15 = zx15 := ex15.trans ezx15.symm
            refine lv_iadd hx hb dX5_bit_270 ?_
            obtain ⟨x16, ex16, hF⟩ := ltt_some hF
            refine lv_topi (fun zx16 ezx16 => ?_)
            obtain rfl : x16 = zx16 := ex16.trans ezx16.symm
            obtain ⟨b17, ho17, hc17, hk17, hF⟩ := dr_some hF
            refine W_st (st' := [.int x16, .ref (ad b17)]) (by rw [va_some ho17]) ?_
            obtain ⟨hvc, hF⟩ := chk_some hF
            refine va_bald hx hb hK hP b17 0 (wld_b ct ad G y13 hc17 hk17) rfl hvc dX5_bit_271 ?_
            obtain ⟨x18, ex18, hF⟩ := ltt_some hF
            refine lv_topi (fun zx18 ezx18 => ?_)
            obtain rfl : x18 = zx18 := ex18.trans ezx18.symm
            refine lv_bipush (v := (7 : Int32)) hx hb dX5_bit_272 (by decide) ?_
            refine lv_aload_n hx hb dX5_bit_274 rfl (lv_at hl 2 rfl) ?_
            refine va_get (D := D) (ci := 5) (v := .int (y13.1 a 2)) (C := RX5) (T := TX5) (N := 17) hx hb hts (mus hf_X5) hown hK hP a (wld_o ct ad G y13 hc hk (by decide)) rfl 2 (by decide) (hts (.fieldLink RX5 57 "VideoSuite$Reader" "place" "I") (mu mw_289)) (fun _ h9 => h9) rfl dX5_bit_275 ?_
            obtain ⟨x19, ex19, hF⟩ := ltt_some hF
            refine lv_topi (fun zx19 ezx19 => ?_)
            obtain rfl : x19 = zx19 := ex19.trans ezx19.symm
            refine lv_bipush (v := (7 : Int32)) hx hb dX5_bit_278 (by decide) ?_
            refine lv_iand hx hb dX5_bit_280 ?_
            obtain ⟨x20, ex20, hF⟩ := ltt_some hF
            refine lv_topi (fun zx20 ezx20 => ?_)
            obtain rfl : x20 = zx20 := ex20.trans ezx20.symm
            refine lv_isub hx hb dX5_bit_281 ?_
            obtain ⟨x21, ex21, hF⟩ := ltt_some hF
            refine lv_topi (fun zx21 ezx21 => ?_)
            obtain rfl : x21 = zx21 := ex21.trans ezx21.symm
            refine lv_ishr hx hb dX5_bit_282 ?_
            obtain ⟨x22, ex22, hF⟩ := ltt_some hF
            refine lv_topi (fun zx22 ezx22 => ?_)
            obtain rfl : x22 = zx22 := ex22.trans ezx22.symm
            refine lv_iconst (v := (1 : Int32)) hx hb dX5_bit_283 (by decide) ?_
            refine lv_iand hx hb dX5_bit_284 ?_
            obtain ⟨x23, ex23, hF⟩ := ltt_some hF
            refine lv_topi (fun zx23 ezx23 => ?_)
            obtain rfl : x23 = zx23 := ex23.trans ezx23.symm
            refine lv_istore (lv' := [(5, .int x23), (4, .int s4.2.1), (3, .int s4.1), (0, .ref (ad a)), (1, .int p0), (2, .int p1)]) hx hb dX5_bit_285 hl (by decide) rfl (fun ls hl => ?_)
            refine lv_aload_n hx hb dX5_bit_287 rfl (lv_at hl 3 rfl) ?_
            refine lv_dup hx hb dX5_bit_288 rfl ?_
            refine va_get (D := D) (ci := 5) (v := .int (y13.1 a 2)) (C := RX5) (T := TX5) (N := 17) hx hb hts (mus hf_X5) hown hK hP a (wld_o ct ad G y13 hc hk (by decide)) rfl 2 (by decide) (hts (.fieldLink RX5 57 "VideoSuite$Reader" "place" "I") (mu mw_289)) (fun _ h9 => h9) rfl dX5_bit_289 ?_
            obtain ⟨x24, ex24, hF⟩ := ltt_some hF
            refine lv_topi (fun zx24 ezx24 => ?_)
            obtain rfl : x24 = zx24 := ex24.trans ezx24.symm
            refine lv_iconst (v := (1 : Int32)) hx hb dX5_bit_292 (by decide) ?_
            refine lv_iadd hx hb dX5_bit_293 ?_
            obtain ⟨x25, ex25, hF⟩ := ltt_some hF
            refine lv_topi (fun zx25 ezx25 => ?_)
            obtain rfl : x25 = zx25 := ex25.trans ezx25.symm
            refine va_put (D := D) (ci := 5) (v := .int x25) (ty := .int) (C := RX5) (T := TX5) (N := 17) hx hb hts (mus hf_X5) tyX5 tyX5_ok nmX5 hown hK hP hD hS a (wld_o ct ad G y13 hc hk (by decide)) rfl 2 (by decide) (hts (.fieldLink RX5 57 "VideoSuite$Reader" "place" "I") (mu mw_289)) (fun _ h9 => h9) rfl (by decide +kernel) rfl rfl (Nat.le_of_ble_eq_true rfl) dX5_bit_294 (fun H locs hP hD hS => ?_)
            obtain ⟨M26, eM26, hF⟩ := ltt_some hF
            rw [set_oI ct ad G y13 hc hk (by decide) (by rfl), ← eM26] at hP hD
            refine lv_aload_n hx hb dX5_bit_297 rfl (lv_at hl 3 rfl) ?_
            refine va_get (D := D) (ci := 5) (v := .int (M26.1 a 6)) (C := RX5) (T := TX5) (N := 17) hx hb hts (mus hf_X5) hown hK hP a (wld_o ct ad G M26 hc hk (by decide)) rfl 6 (by decide) (hts (.fieldLink RX5 66 "VideoSuite$Reader" "arith" "Z") (mu mw_295)) (fun _ h9 => h9) rfl dX5_bit_298 ?_
            obtain ⟨x27, ex27, hF⟩ := ltt_some hF
            refine lv_topi (fun zx27 ezx27 => ?_)
            obtain rfl : x27 = zx27 := ex27.trans ezx27.symm
            obtain ⟨y28, hy28, hF⟩ := bnd_some hF
            have J28 : ∀ (H : Heap) (locs : List Loc) (ls : Array Slot), va_P D classes (wld ct ad G y28.2) H → va_D A (wld ct ad G y28.2) → va_S A s.heap H locs → lv_has ls 8 [(5, .int x23), (4, .int s4.2.1), (3, .int y28.1), (0, .ref (ad a)), (1, .int p0), (2, .int p1)] → W p l e (headSpec wuX5_bit ({ frames := 0, cells := 0, slots := 0, locals := 0 })).room s m ([.ref (ad a), .int p0, .int p1] : List Value).toArray below meth c H locs 0 0 (MQ below (va_Qi (fun (q : Int32) (_ : Unit) => q = y.2) (fun _ t => kE D ct ad G A y.1 t) A) ([.ref (ad a), .int p0, .int p1] : List Value).toArray s 0 0 A) (F0 m 333 ls []) := by
              intro H locs ls hP hD hS hl
              obtain ⟨x29, ex29, hF⟩ := ltt_some hF
              refine lv_iinc (v := x29) (lv' := [(4, .int x29), (5, .int x23), (3, .int y28.1), (0, .ref (ad a)), (1, .int p0), (2, .int p1)]) hx hb dX5_bit_333 hl (k := 1) rfl (by rw [ex29]; rfl) (by decide) rfl (fun ls hl => ?_)
              refine lv_goto (tgt := 178) hx hb dX5_bit_336 (by decide) ?_
              obtain rfl := Option.some.inj hF
              exact hwz6 _ _ _ hP hD hS (lv_sub hl [0, 2, 3, 4, 5] rfl)
            clear hF
            have hF := hy28
            clear hy28
            refine lv_if_eq (tgt := 330) hx hb dX5_bit_301 (by decide) (fun c30 => ?_) (fun c30 => ?_)
            · rw [if_pos c30] at hF
              refine lv_iload hx hb dX5_bit_330 (lv_at hl 0 rfl) ?_
              refine lv_istore_n (lv' := [(3, .int x23), (5, .int x23), (4, .int s4.2.1), (0, .ref (ad a)), (1, .int p0), (2, .int p1)]) hx hb dX5_bit_332 rfl hl (by decide) rfl (fun ls hl => ?_)
              obtain rfl := Option.some.inj hF
              exact J28 _ _ _ hP hD hS (lv_sub hl [1, 2, 0, 3, 4, 5] rfl)
            · rw [if_neg c30] at hF
              refine lv_aload_n hx hb dX5_bit_304 rfl (lv_at hl 3 rfl) ?_
              refine lv_dup hx hb dX5_bit_305 rfl ?_
              refine va_get (D := D) (ci := 5) (v := .int (M26.1 a 8)) (C := RX5) (T := TX5) (N := 17) hx hb hts (mus hf_X5) hown hK hP a (wld_o ct ad G M26 hc hk (by decide)) rfl 8 (by decide) (hts (.fieldLink RX5 96 "VideoSuite$Reader" "range" "I") (mu mw_297)) (fun _ h9 => h9) rfl dX5_bit_306 ?_
              obtain ⟨x31, ex31, hF⟩ := ltt_some hF
              refine lv_topi (fun zx31 ezx31 => ?_)
              obtain rfl : x31 = zx31 := ex31.trans ezx31.symm
              refine lv_iconst (v := (1 : Int32)) hx hb dX5_bit_309 (by decide) ?_
              refine lv_ishl hx hb dX5_bit_310 ?_
              obtain ⟨x32, ex32, hF⟩ := ltt_some hF
              refine lv_topi (fun zx32 ezx32 => ?_)
              obtain rfl : x32 = zx32 := ex32.trans ezx32.symm
              refine va_put (D := D) (ci := 5) (v := .int x32) (ty := .int) (C := RX5) (T := TX5) (N := 17) hx hb hts (mus hf_X5) tyX5 tyX5_ok nmX5 hown hK hP hD hS a (wld_o ct ad G M26 hc hk (by decide)) rfl 8 (by decide) (hts (.fieldLink RX5 96 "VideoSuite$Reader" "range" "I") (mu mw_297)) (fun _ h9 => h9) rfl (by decide +kernel) rfl rfl (Nat.le_of_ble_eq_true rfl) dX5_bit_311 (fun H locs hP hD hS => ?_)
              obtain ⟨M33, eM33, hF⟩ := ltt_some hF
              rw [set_oI ct ad G M26 hc hk (by decide) (by rfl), ← eM33] at hP hD
              refine lv_aload_n hx hb dX5_bit_314 rfl (lv_at hl 3 rfl) ?_
              refine lv_aload_n hx hb dX5_bit_315 rfl (lv_at hl 3 rfl) ?_
              refine va_get (D := D) (ci := 5) (v := .int (M33.1 a 9)) (C := RX5) (T := TX5) (N := 17) hx hb hts (mus hf_X5) hown hK hP a (wld_o ct ad G M33 hc hk (by decide)) rfl 9 (by decide) (hts (.fieldLink RX5 99 "VideoSuite$Reader" "offset" "I") (mu mw_298)) (fun _ h9 => h9) rfl dX5_bit_316 ?_
              obtain ⟨x34, ex34, hF⟩ := ltt_some hF
              refine lv_topi (fun zx34 ezx34 => ?_)
              obtain rfl : x34 = zx34 := ex34.trans ezx34.symm
              refine lv_iconst (v := (1 : Int32)) hx hb dX5_bit_319 (by decide) ?_
              refine lv_ishl hx hb dX5_bit_320 ?_
              obtain ⟨x35, ex35, hF⟩ := ltt_some hF
              refine lv_topi (fun zx35 ezx35 => ?_)
              obtain rfl : x35 = zx35 := ex35.trans ezx35.symm
              refine lv_iload hx hb dX5_bit_321 (lv_at hl 0 rfl) ?_
              refine lv_ior hx hb dX5_bit_323 ?_
              obtain ⟨x36, ex36, hF⟩ := ltt_some hF
              refine lv_topi (fun zx36 ezx36 => ?_)
              obtain rfl : x36 = zx36 := ex36.trans ezx36.symm
              refine va_put (D := D) (ci := 5) (v := .int x36) (ty := .int) (C := RX5) (T := TX5) (N := 17) hx hb hts (mus hf_X5) tyX5 tyX5_ok nmX5 hown hK hP hD hS a (wld_o ct ad G M33 hc hk (by decide)) rfl 9 (by decide) (hts (.fieldLink RX5 99 "VideoSuite$Reader" "offset" "I") (mu mw_298)) (fun _ h9 => h9) rfl (by decide +kernel) rfl rfl (Nat.le_of_ble_eq_true rfl) dX5_bit_324 (fun H locs hP hD hS => ?_)
              obtain ⟨M37, eM37, hF⟩ := ltt_some hF
              rw [set_oI ct ad G M33 hc hk (by decide) (by rfl), ← eM37] at hP hD
              refine lv_goto (tgt := 333) hx hb dX5_bit_327 (by decide) ?_
              obtain rfl := Option.some.inj hF
              exact J28 _ _ _ hP hD hS (lv_sub hl [0, 1, 2, 3, 4, 5] rfl)
          clear hF
          have hF := hy13
          clear hy13
          refine lv_icmp_lt (tgt := 259) hx hb dX5_bit_219 (by decide) (fun c38 => ?_) (fun c38 => ?_)
          · rw [if_pos c38] at hF
            obtain rfl := Option.some.inj hF
            exact J13 _ _ _ hP hD hS (lv_sub hl [0, 1, 2, 3, 4] rfl)
          · rw [if_neg c38] at hF
            refine lv_aload_n hx hb dX5_bit_222 rfl (lv_at hl 2 rfl) ?_
            refine lv_iconst (v := (1 : Int32)) hx hb dX5_bit_223 (by decide) ?_
            refine va_put (D := D) (ci := 5) (v := .int (1 : Int32)) (ty := .int) (C := RX5) (T := TX5) (N := 17) hx hb hts (mus hf_X5) tyX5 tyX5_ok nmX5 hown hK hP hD hS a (wld_o ct ad G s4.2.2 hc hk (by decide)) rfl 15 (by decide) (hts (.fieldLink RX5 76 "VideoSuite$Reader" "faultKind" "I") (mu mw_307)) (fun _ h9 => h9) rfl (by decide +kernel) rfl rfl (Nat.le_of_ble_eq_true rfl) dX5_bit_224 (fun H locs hP hD hS => ?_)
            obtain ⟨M39, eM39, hF⟩ := ltt_some hF
            rw [set_oI ct ad G s4.2.2 hc hk (by decide) (by rfl), ← eM39] at hP hD
            refine lv_aload_n hx hb dX5_bit_227 rfl (lv_at hl 2 rfl) ?_
            refine lv_aload_n hx hb dX5_bit_228 rfl (lv_at hl 2 rfl) ?_
            refine va_get (D := D) (ci := 5) (v := .int (M39.1 a 7)) (C := RX5) (T := TX5) (N := 17) hx hb hts (mus hf_X5) hown hK hP a (wld_o ct ad G M39 hc hk (by decide)) rfl 7 (by decide) (hts (.fieldLink RX5 70 "VideoSuite$Reader" "inData" "Z") (mu mw_296)) (fun _ h9 => h9) rfl dX5_bit_229 ?_
            obtain ⟨x40, ex40, hF⟩ := ltt_some hF
            refine lv_topi (fun zx40 ezx40 => ?_)
            obtain rfl : x40 = zx40 := ex40.trans ezx40.symm
            obtain ⟨y41, hy41, hF⟩ := bnd_some hF
            have J41 : ∀ (H : Heap) (locs : List Loc) (ls : Array Slot), va_P D classes (wld ct ad G M39) H → va_D A (wld ct ad G M39) → va_S A s.heap H locs → lv_has ls 8 [(4, .int s4.2.1), (3, .int s4.1), (0, .ref (ad a)), (1, .int p0), (2, .int p1)] → W p l e (headSpec wuX5_bit ({ frames := 0, cells := 0, slots := 0, locals := 0 })).room s m ([.ref (ad a), .int p0, .int p1] : List Value).toArray below meth c H locs 0 0 (MQ below (va_Qi (fun (q : Int32) (_ : Unit) => q = y.2) (fun _ t => kE D ct ad G A y.1 t) A) ([.ref (ad a), .int p0, .int p1] : List Value).toArray s 0 0 A) (F0 m 246 ls [.int y41, .ref (ad a)]) := by
              intro H locs ls hP hD hS hl
              refine va_put (D := D) (ci := 5) (v := .int y41) (ty := .int) (C := RX5) (T := TX5) (N := 17) hx hb hts (mus hf_X5) tyX5 tyX5_ok nmX5 hown hK hP hD hS a (wld_o ct ad G M39 hc hk (by decide)) rfl 16 (by decide) (hts (.fieldLink RX5 79 "VideoSuite$Reader" "faultPlace" "I") (mu mw_309)) (fun _ h9 => h9) rfl (by decide +kernel) rfl rfl (Nat.le_of_ble_eq_true rfl) dX5_bit_246 (fun H locs hP hD hS => ?_)
              obtain ⟨M42, eM42, hF⟩ := ltt_some hF
              rw [set_oI ct ad G M39 hc hk (by decide) (by rfl), ← eM42] at hP hD
              cases hF
            clear hF
            have hF := hy41
            clear hy41
            refine lv_if_eq (tgt := 242) hx hb dX5_bit_232 (by decide) (fun c43 => ?_) (fun c43 => ?_)
            · rw [if_pos c43] at hF
              refine lv_aload_n hx hb dX5_bit_242 rfl (lv_at hl 2 rfl) ?_
              refine va_get (D := D) (ci := 5) (v := .int (M39.1 a 4)) (C := RX5) (T := TX5) (N := 17) hx hb hts (mus hf_X5) hown hK hP a (wld_o ct ad G M39 hc hk (by decide)) rfl 4 (by decide) (hts (.fieldLink RX5 60 "VideoSuite$Reader" "begin" "I") (mu mw_292)) (fun _ h9 => h9) rfl dX5_bit_243 ?_
              obtain ⟨x44, ex44, hF⟩ := ltt_some hF
              refine lv_topi (fun zx44 ezx44 => ?_)
              obtain rfl : x44 = zx44 := ex44.trans ezx44.symm
              obtain rfl := Option.some.inj hF
              exact J41 _ _ _ hP hD hS (lv_sub hl [0, 1, 2, 3, 4] rfl)
            · rw [if_neg c43] at hF
              refine lv_aload_n hx hb dX5_bit_235 rfl (lv_at hl 2 rfl) ?_
              refine va_get (D := D) (ci := 5) (v := .int (M39.1 a 2)) (C := RX5) (T := TX5) (N := 17) hx hb hts (mus hf_X5) hown hK hP a (wld_o ct ad G M39 hc hk (by decide)) rfl 2 (by decide) (hts (.fieldLink RX5 57 "VideoSuite$Reader" "place" "I") (mu mw_289)) (fun _ h9 => h9) rfl dX5_bit_236 ?_
              obtain ⟨x45, ex45, hF⟩ := ltt_some hF
              refine lv_topi (fun zx45 ezx45 => ?_)
              obtain rfl : x45 = zx45 := ex45.trans ezx45.symm
              refine lv_goto (tgt := 246) hx hb dX5_bit_239 (by decide) ?_
              obtain rfl := Option.some.inj hF
              exact J41 _ _ _ hP hD hS (lv_sub hl [0, 1, 2, 3, 4] rfl)
      · rw [if_neg c9] at hF
        refine lv_aload_n hx hb dX5_bit_192 rfl (lv_at hl 2 rfl) ?_
        refine va_get (D := D) (ci := 5) (v := .int (s4.2.2.1 a 8)) (C := RX5) (T := TX5) (N := 17) hx hb hts (mus hf_X5) hown hK hP a (wld_o ct ad G s4.2.2 hc hk (by decide)) rfl 8 (by decide) (hts (.fieldLink RX5 96 "VideoSuite$Reader" "range" "I") (mu mw_297)) (fun _ h9 => h9) rfl dX5_bit_193 ?_
        obtain ⟨x46, ex46, hF⟩ := ltt_some hF
        refine lv_topi (fun zx46 ezx46 => ?_)
        obtain rfl : x46 = zx46 := ex46.trans ezx46.symm
        refine lv_sipush (v := (256 : Int32)) hx hb dX5_bit_196 (by decide) ?_
        refine lv_icmp_ge (tgt := 339) hx hb dX5_bit_199 (by decide) (fun c47 => ?_) (fun c47 => ?_)
        · rw [if_pos c47] at hF
          obtain rfl := Option.some.inj hF
          subst hwz6
          exact K3 _ _ _ hP hD hS (lv_sub hl [0, 1, 2, 3, 4] rfl)
        · rw [if_neg c47] at hF
          refine lv_goto (tgt := 211) hx hb dX5_bit_202 (by decide) ?_
          refine lv_aload_n hx hb dX5_bit_211 rfl (lv_at hl 2 rfl) ?_
          refine va_get (D := D) (ci := 5) (v := .int (s4.2.2.1 a 2)) (C := RX5) (T := TX5) (N := 17) hx hb hts (mus hf_X5) hown hK hP a (wld_o ct ad G s4.2.2 hc hk (by decide)) rfl 2 (by decide) (hts (.fieldLink RX5 57 "VideoSuite$Reader" "place" "I") (mu mw_289)) (fun _ h9 => h9) rfl dX5_bit_212 ?_
          obtain ⟨x48, ex48, hF⟩ := ltt_some hF
          refine lv_topi (fun zx48 ezx48 => ?_)
          obtain rfl : x48 = zx48 := ex48.trans ezx48.symm
          refine lv_aload_n hx hb dX5_bit_215 rfl (lv_at hl 2 rfl) ?_
          refine va_get (D := D) (ci := 5) (v := .int (s4.2.2.1 a 1)) (C := RX5) (T := TX5) (N := 17) hx hb hts (mus hf_X5) hown hK hP a (wld_o ct ad G s4.2.2 hc hk (by decide)) rfl 1 (by decide) (hts (.fieldLink RX5 47 "VideoSuite$Reader" "total" "I") (mu mw_288)) (fun _ h9 => h9) rfl dX5_bit_216 ?_
          obtain ⟨x49, ex49, hF⟩ := ltt_some hF
          refine lv_topi (fun zx49 ezx49 => ?_)
          obtain rfl : x49 = zx49 := ex49.trans ezx49.symm
          obtain ⟨y50, hy50, hF⟩ := bnd_some hF
          have J50 : ∀ (H : Heap) (locs : List Loc) (ls : Array Slot), va_P D classes (wld ct ad G y50) H → va_D A (wld ct ad G y50) → va_S A s.heap H locs → lv_has ls 8 [(4, .int s4.2.1), (3, .int s4.1), (0, .ref (ad a)), (1, .int p0), (2, .int p1)] → W p l e (headSpec wuX5_bit ({ frames := 0, cells := 0, slots := 0, locals := 0 })).room s m ([.ref (ad a), .int p0, .int p1] : List Value).toArray below meth c H locs 0 0 (MQ below (va_Qi (fun (q : Int32) (_ : Unit) => q = y.2) (fun _ t => kE D ct ad G A y.1 t) A) ([.ref (ad a), .int p0, .int p1] : List Value).toArray s 0 0 A) (F0 m 259 ls []) := by
            intro H locs ls hP hD hS hl
            refine lv_aload_n hx hb dX5_bit_259 rfl (lv_at hl 2 rfl) ?_
            refine va_get (D := D) (ci := 5) (v := va_re ad (y50.2 a 0)) (C := RX5) (T := TX5) (N := 17) hx hb hts (mus hf_X5) hown hK hP a (wld_o ct ad G y50 hc hk (by decide)) rfl 0 (by decide) (hts (.fieldLink RX5 40 "VideoSuite$Reader" "data" "[B") (mu mw_287)) (fun _ h9 => h9) rfl dX5_bit_260 ?_
            refine lv_iconst (v := (1 : Int32)) hx hb dX5_bit_263 (by decide) ?_
            refine lv_aload_n hx hb dX5_bit_264 rfl (lv_at hl 2 rfl) ?_
            refine va_get (D := D) (ci := 5) (v := .int (y50.1 a 2)) (C := RX5) (T := TX5) (N := 17) hx hb hts (mus hf_X5) hown hK hP a (wld_o ct ad G y50 hc hk (by decide)) rfl 2 (by decide) (hts (.fieldLink RX5 57 "VideoSuite$Reader" "place" "I") (mu mw_289)) (fun _ h9 => h9) rfl dX5_bit_265 ?_
            obtain ⟨x51, ex51, hF⟩ := ltt_some hF
            refine lv_topi (fun zx51 ezx51 => ?_)
            obtain rfl : x51 = zx51 := ex51.trans ezx51.symm
            refine lv_iconst (v := (3 : Int32)) hx hb dX5_bit_268 (by decide) ?_
            refine lv_ishr hx hb dX5_bit_269 ?_
            obtain ⟨x52, ex52, hF⟩ := ltt_some hF
            refine lv_topi (fun zx52 ezx52 => ?_)
            obtain rfl : x52 = zx52 := ex52.trans ezx52.symm
            refine lv_iadd hx hb dX5_bit_270 ?_
            obtain ⟨x53, ex53, hF⟩ := ltt_some hF
            refine lv_topi (fun zx53 ezx53 => ?_)
            obtain rfl : x53 = zx53 := ex53.trans ezx53.symm
            obtain ⟨b54, ho54, hc54, hk54, hF⟩ := dr_some hF
            refine W_st (st' := [.int x53, .ref (ad b54)]) (by rw [va_some ho54]) ?_
            obtain ⟨hvc, hF⟩ := chk_some hF
            refine va_bald hx hb hK hP b54 0 (wld_b ct ad G y50 hc54 hk54) rfl hvc dX5_bit_271 ?_
            obtain ⟨x55, ex55, hF⟩ := ltt_some hF
            refine lv_topi (fun zx55 ezx55 => ?_)
            obtain rfl : x55 = zx55 := ex55.trans ezx55.symm
            refine lv_bipush (v := (7 : Int32)) hx hb dX5_bit_272 (by decide) ?_
            refine lv_aload_n hx hb dX5_bit_274 rfl (lv_at hl 2 rfl) ?_
            refine va_get (D := D) (ci := 5) (v := .int (y50.1 a 2)) (C := RX5) (T := TX5) (N := 17) hx hb hts (mus hf_X5) hown hK hP a (wld_o ct ad G y50 hc hk (by decide)) rfl 2 (by decide) (hts (.fieldLink RX5 57 "VideoSuite$Reader" "place" "I") (mu mw_289)) (fun _ h9 => h9) rfl dX5_bit_275 ?_
            obtain ⟨x56, ex56, hF⟩ := ltt_some hF
            refine lv_topi (fun zx56 ezx56 => ?_)
            obtain rfl : x56 = zx56 := ex56.trans ezx56.symm
            refine lv_bipush (v := (7 : Int32)) hx hb dX5_bit_278 (by decide) ?_
            refine lv_iand hx hb dX5_bit_280 ?_
            obtain ⟨x57, ex57, hF⟩ := ltt_some hF
            refine lv_topi (fun zx57 ezx57 => ?_)
            obtain rfl : x57 = zx57 := ex57.trans ezx57.symm
            refine lv_isub hx hb dX5_bit_281 ?_
            obtain ⟨x58, ex58, hF⟩ := ltt_some hF
            refine lv_topi (fun zx58 ezx58 => ?_)
            obtain rfl : x58 = zx58 := ex58.trans ezx58.symm
            refine lv_ishr hx hb dX5_bit_282 ?_
            obtain ⟨x59, ex59, hF⟩ := ltt_some hF
            refine lv_topi (fun zx59 ezx59 => ?_)
            obtain rfl : x59 = zx59 := ex59.trans ezx59.symm
            refine lv_iconst (v := (1 : Int32)) hx hb dX5_bit_283 (by decide) ?_
            refine lv_iand hx hb dX5_bit_284 ?_
            obtain ⟨x60, ex60, hF⟩ := ltt_some hF
            refine lv_topi (fun zx60 ezx60 => ?_)
            obtain rfl : x60 = zx60 := ex60.trans ezx60.symm
            refine lv_istore (lv' := [(5, .int x60), (4, .int s4.2.1), (3, .int s4.1), (0, .ref (ad a)), (1, .int p0), (2, .int p1)]) hx hb dX5_bit_285 hl (by decide) rfl (fun ls hl => ?_)
            refine lv_aload_n hx hb dX5_bit_287 rfl (lv_at hl 3 rfl) ?_
            refine lv_dup hx hb dX5_bit_288 rfl ?_
            refine va_get (D := D) (ci := 5) (v := .int (y50.1 a 2)) (C := RX5) (T := TX5) (N := 17) hx hb hts (mus hf_X5) hown hK hP a (wld_o ct ad G y50 hc hk (by decide)) rfl 2 (by decide) (hts (.fieldLink RX5 57 "VideoSuite$Reader" "place" "I") (mu mw_289)) (fun _ h9 => h9) rfl dX5_bit_289 ?_
            obtain ⟨x61, ex61, hF⟩ := ltt_some hF
            refine lv_topi (fun zx61 ezx61 => ?_)
            obtain rfl : x61 = zx61 := ex61.trans ezx61.symm
            refine lv_iconst (v := (1 : Int32)) hx hb dX5_bit_292 (by decide) ?_
            refine lv_iadd hx hb dX5_bit_293 ?_
            obtain ⟨x62, ex62, hF⟩ := ltt_some hF
            refine lv_topi (fun zx62 ezx62 => ?_)
            obtain rfl : x62 = zx62 := ex62.trans ezx62.symm
            refine va_put (D := D) (ci := 5) (v := .int x62) (ty := .int) (C := RX5) (T := TX5) (N := 17) hx hb hts (mus hf_X5) tyX5 tyX5_ok nmX5 hown hK hP hD hS a (wld_o ct ad G y50 hc hk (by decide)) rfl 2 (by decide) (hts (.fieldLink RX5 57 "VideoSuite$Reader" "place" "I") (mu mw_289)) (fun _ h9 => h9) rfl (by decide +kernel) rfl rfl (Nat.le_of_ble_eq_true rfl) dX5_bit_294 (fun H locs hP hD hS => ?_)
            obtain ⟨M63, eM63, hF⟩ := ltt_some hF
            rw [set_oI ct ad G y50 hc hk (by decide) (by rfl), ← eM63] at hP hD
            refine lv_aload_n hx hb dX5_bit_297 rfl (lv_at hl 3 rfl) ?_
            refine va_get (D := D) (ci := 5) (v := .int (M63.1 a 6)) (C := RX5) (T := TX5) (N := 17) hx hb hts (mus hf_X5) hown hK hP a (wld_o ct ad G M63 hc hk (by decide)) rfl 6 (by decide) (hts (.fieldLink RX5 66 "VideoSuite$Reader" "arith" "Z") (mu mw_295)) (fun _ h9 => h9) rfl dX5_bit_298 ?_
            obtain ⟨x64, ex64, hF⟩ := ltt_some hF
            refine lv_topi (fun zx64 ezx64 => ?_)
            obtain rfl : x64 = zx64 := ex64.trans ezx64.symm
            obtain ⟨y65, hy65, hF⟩ := bnd_some hF
            have J65 : ∀ (H : Heap) (locs : List Loc) (ls : Array Slot), va_P D classes (wld ct ad G y65.2) H → va_D A (wld ct ad G y65.2) → va_S A s.heap H locs → lv_has ls 8 [(5, .int x60), (4, .int s4.2.1), (3, .int y65.1), (0, .ref (ad a)), (1, .int p0), (2, .int p1)] → W p l e (headSpec wuX5_bit ({ frames := 0, cells := 0, slots := 0, locals := 0 })).room s m ([.ref (ad a), .int p0, .int p1] : List Value).toArray below meth c H locs 0 0 (MQ below (va_Qi (fun (q : Int32) (_ : Unit) => q = y.2) (fun _ t => kE D ct ad G A y.1 t) A) ([.ref (ad a), .int p0, .int p1] : List Value).toArray s 0 0 A) (F0 m 333 ls []) := by
              intro H locs ls hP hD hS hl
              obtain ⟨x66, ex66, hF⟩ := ltt_some hF
              refine lv_iinc (v := x66) (lv' := [(4, .int x66), (5, .int x60), (3, .int y65.1), (0, .ref (ad a)), (1, .int p0), (2, .int p1)]) hx hb dX5_bit_333 hl (k := 1) rfl (by rw [ex66]; rfl) (by decide) rfl (fun ls hl => ?_)
              refine lv_goto (tgt := 178) hx hb dX5_bit_336 (by decide) ?_
              obtain rfl := Option.some.inj hF
              exact hwz6 _ _ _ hP hD hS (lv_sub hl [0, 2, 3, 4, 5] rfl)
            clear hF
            have hF := hy65
            clear hy65
            refine lv_if_eq (tgt := 330) hx hb dX5_bit_301 (by decide) (fun c67 => ?_) (fun c67 => ?_)
            · rw [if_pos c67] at hF
              refine lv_iload hx hb dX5_bit_330 (lv_at hl 0 rfl) ?_
              refine lv_istore_n (lv' := [(3, .int x60), (5, .int x60), (4, .int s4.2.1), (0, .ref (ad a)), (1, .int p0), (2, .int p1)]) hx hb dX5_bit_332 rfl hl (by decide) rfl (fun ls hl => ?_)
              obtain rfl := Option.some.inj hF
              exact J65 _ _ _ hP hD hS (lv_sub hl [1, 2, 0, 3, 4, 5] rfl)
            · rw [if_neg c67] at hF
              refine lv_aload_n hx hb dX5_bit_304 rfl (lv_at hl 3 rfl) ?_
              refine lv_dup hx hb dX5_bit_305 rfl ?_
              refine va_get (D := D) (ci := 5) (v := .int (M63.1 a 8)) (C := RX5) (T := TX5) (N := 17) hx hb hts (mus hf_X5) hown hK hP a (wld_o ct ad G M63 hc hk (by decide)) rfl 8 (by decide) (hts (.fieldLink RX5 96 "VideoSuite$Reader" "range" "I") (mu mw_297)) (fun _ h9 => h9) rfl dX5_bit_306 ?_
              obtain ⟨x68, ex68, hF⟩ := ltt_some hF
              refine lv_topi (fun zx68 ezx68 => ?_)
              obtain rfl : x68 = zx68 := ex68.trans ezx68.symm
              refine lv_iconst (v := (1 : Int32)) hx hb dX5_bit_309 (by decide) ?_
              refine lv_ishl hx hb dX5_bit_310 ?_
              obtain ⟨x69, ex69, hF⟩ := ltt_some hF
              refine lv_topi (fun zx69 ezx69 => ?_)
              obtain rfl : x69 = zx69 := ex69.trans ezx69.symm
              refine va_put (D := D) (ci := 5) (v := .int x69) (ty := .int) (C := RX5) (T := TX5) (N := 17) hx hb hts (mus hf_X5) tyX5 tyX5_ok nmX5 hown hK hP hD hS a (wld_o ct ad G M63 hc hk (by decide)) rfl 8 (by decide) (hts (.fieldLink RX5 96 "VideoSuite$Reader" "range" "I") (mu mw_297)) (fun _ h9 => h9) rfl (by decide +kernel) rfl rfl (Nat.le_of_ble_eq_true rfl) dX5_bit_311 (fun H locs hP hD hS => ?_)
              obtain ⟨M70, eM70, hF⟩ := ltt_some hF
              rw [set_oI ct ad G M63 hc hk (by decide) (by rfl), ← eM70] at hP hD
              refine lv_aload_n hx hb dX5_bit_314 rfl (lv_at hl 3 rfl) ?_
              refine lv_aload_n hx hb dX5_bit_315 rfl (lv_at hl 3 rfl) ?_
              refine va_get (D := D) (ci := 5) (v := .int (M70.1 a 9)) (C := RX5) (T := TX5) (N := 17) hx hb hts (mus hf_X5) hown hK hP a (wld_o ct ad G M70 hc hk (by decide)) rfl 9 (by decide) (hts (.fieldLink RX5 99 "VideoSuite$Reader" "offset" "I") (mu mw_298)) (fun _ h9 => h9) rfl dX5_bit_316 ?_
              obtain ⟨x71, ex71, hF⟩ := ltt_some hF
              refine lv_topi (fun zx71 ezx71 => ?_)
              obtain rfl : x71 = zx71 := ex71.trans ezx71.symm
              refine lv_iconst (v := (1 : Int32)) hx hb dX5_bit_319 (by decide) ?_
              refine lv_ishl hx hb dX5_bit_320 ?_
              obtain ⟨x72, ex72, hF⟩ := ltt_some hF
              refine lv_topi (fun zx72 ezx72 => ?_)
              obtain rfl : x72 = zx72 := ex72.trans ezx72.symm
              refine lv_iload hx hb dX5_bit_321 (lv_at hl 0 rfl) ?_
              refine lv_ior hx hb dX5_bit_323 ?_
              obtain ⟨x73, ex73, hF⟩ := ltt_some hF
              refine lv_topi (fun zx73 ezx73 => ?_)
              obtain rfl : x73 = zx73 := ex73.trans ezx73.symm
              refine va_put (D := D) (ci := 5) (v := .int x73) (ty := .int) (C := RX5) (T := TX5) (N := 17) hx hb hts (mus hf_X5) tyX5 tyX5_ok nmX5 hown hK hP hD hS a (wld_o ct ad G M70 hc hk (by decide)) rfl 9 (by decide) (hts (.fieldLink RX5 99 "VideoSuite$Reader" "offset" "I") (mu mw_298)) (fun _ h9 => h9) rfl (by decide +kernel) rfl rfl (Nat.le_of_ble_eq_true rfl) dX5_bit_324 (fun H locs hP hD hS => ?_)
              obtain ⟨M74, eM74, hF⟩ := ltt_some hF
              rw [set_oI ct ad G M70 hc hk (by decide) (by rfl), ← eM74] at hP hD
              refine lv_goto (tgt := 333) hx hb dX5_bit_327 (by decide) ?_
              obtain rfl := Option.some.inj hF
              exact J65 _ _ _ hP hD hS (lv_sub hl [0, 1, 2, 3, 4, 5] rfl)
          clear hF
          have hF := hy50
          clear hy50
          refine lv_icmp_lt (tgt := 259) hx hb dX5_bit_219 (by decide) (fun c75 => ?_) (fun c75 => ?_)
          · rw [if_pos c75] at hF
            obtain rfl := Option.some.inj hF
            exact J50 _ _ _ hP hD hS (lv_sub hl [0, 1, 2, 3, 4] rfl)
          · rw [if_neg c75] at hF
            refine lv_aload_n hx hb dX5_bit_222 rfl (lv_at hl 2 rfl) ?_
            refine lv_iconst (v := (1 : Int32)) hx hb dX5_bit_223 (by decide) ?_
            refine va_put (D := D) (ci := 5) (v := .int (1 : Int32)) (ty := .int) (C := RX5) (T := TX5) (N := 17) hx hb hts (mus hf_X5) tyX5 tyX5_ok nmX5 hown hK hP hD hS a (wld_o ct ad G s4.2.2 hc hk (by decide)) rfl 15 (by decide) (hts (.fieldLink RX5 76 "VideoSuite$Reader" "faultKind" "I") (mu mw_307)) (fun _ h9 => h9) rfl (by decide +kernel) rfl rfl (Nat.le_of_ble_eq_true rfl) dX5_bit_224 (fun H locs hP hD hS => ?_)
            obtain ⟨M76, eM76, hF⟩ := ltt_some hF
            rw [set_oI ct ad G s4.2.2 hc hk (by decide) (by rfl), ← eM76] at hP hD
            refine lv_aload_n hx hb dX5_bit_227 rfl (lv_at hl 2 rfl) ?_
            refine lv_aload_n hx hb dX5_bit_228 rfl (lv_at hl 2 rfl) ?_
            refine va_get (D := D) (ci := 5) (v := .int (M76.1 a 7)) (C := RX5) (T := TX5) (N := 17) hx hb hts (mus hf_X5) hown hK hP a (wld_o ct ad G M76 hc hk (by decide)) rfl 7 (by decide) (hts (.fieldLink RX5 70 "VideoSuite$Reader" "inData" "Z") (mu mw_296)) (fun _ h9 => h9) rfl dX5_bit_229 ?_
            obtain ⟨x77, ex77, hF⟩ := ltt_some hF
            refine lv_topi (fun zx77 ezx77 => ?_)
            obtain rfl : x77 = zx77 := ex77.trans ezx77.symm
            obtain ⟨y78, hy78, hF⟩ := bnd_some hF
            have J78 : ∀ (H : Heap) (locs : List Loc) (ls : Array Slot), va_P D classes (wld ct ad G M76) H → va_D A (wld ct ad G M76) → va_S A s.heap H locs → lv_has ls 8 [(4, .int s4.2.1), (3, .int s4.1), (0, .ref (ad a)), (1, .int p0), (2, .int p1)] → W p l e (headSpec wuX5_bit ({ frames := 0, cells := 0, slots := 0, locals := 0 })).room s m ([.ref (ad a), .int p0, .int p1] : List Value).toArray below meth c H locs 0 0 (MQ below (va_Qi (fun (q : Int32) (_ : Unit) => q = y.2) (fun _ t => kE D ct ad G A y.1 t) A) ([.ref (ad a), .int p0, .int p1] : List Value).toArray s 0 0 A) (F0 m 246 ls [.int y78, .ref (ad a)]) := by
              intro H locs ls hP hD hS hl
              refine va_put (D := D) (ci := 5) (v := .int y78) (ty := .int) (C := RX5) (T := TX5) (N := 17) hx hb hts (mus hf_X5) tyX5 tyX5_ok nmX5 hown hK hP hD hS a (wld_o ct ad G M76 hc hk (by decide)) rfl 16 (by decide) (hts (.fieldLink RX5 79 "VideoSuite$Reader" "faultPlace" "I") (mu mw_309)) (fun _ h9 => h9) rfl (by decide +kernel) rfl rfl (Nat.le_of_ble_eq_true rfl) dX5_bit_246 (fun H locs hP hD hS => ?_)
              obtain ⟨M79, eM79, hF⟩ := ltt_some hF
              rw [set_oI ct ad G M76 hc hk (by decide) (by rfl), ← eM79] at hP hD
              cases hF
            clear hF
            have hF := hy78
            clear hy78
            refine lv_if_eq (tgt := 242) hx hb dX5_bit_232 (by decide) (fun c80 => ?_) (fun c80 => ?_)
            · rw [if_pos c80] at hF
              refine lv_aload_n hx hb dX5_bit_242 rfl (lv_at hl 2 rfl) ?_
              refine va_get (D := D) (ci := 5) (v := .int (M76.1 a 4)) (C := RX5) (T := TX5) (N := 17) hx hb hts (mus hf_X5) hown hK hP a (wld_o ct ad G M76 hc hk (by decide)) rfl 4 (by decide) (hts (.fieldLink RX5 60 "VideoSuite$Reader" "begin" "I") (mu mw_292)) (fun _ h9 => h9) rfl dX5_bit_243 ?_
              obtain ⟨x81, ex81, hF⟩ := ltt_some hF
              refine lv_topi (fun zx81 ezx81 => ?_)
              obtain rfl : x81 = zx81 := ex81.trans ezx81.symm
              obtain rfl := Option.some.inj hF
              exact J78 _ _ _ hP hD hS (lv_sub hl [0, 1, 2, 3, 4] rfl)
            · rw [if_neg c80] at hF
              refine lv_aload_n hx hb dX5_bit_235 rfl (lv_at hl 2 rfl) ?_
              refine va_get (D := D) (ci := 5) (v := .int (M76.1 a 2)) (C := RX5) (T := TX5) (N := 17) hx hb hts (mus hf_X5) hown hK hP a (wld_o ct ad G M76 hc hk (by decide)) rfl 2 (by decide) (hts (.fieldLink RX5 57 "VideoSuite$Reader" "place" "I") (mu mw_289)) (fun _ h9 => h9) rfl dX5_bit_236 ?_
              obtain ⟨x82, ex82, hF⟩ := ltt_some hF
              refine lv_topi (fun zx82 ezx82 => ?_)
              obtain rfl : x82 = zx82 := ex82.trans ezx82.symm
              refine lv_goto (tgt := 246) hx hb dX5_bit_239 (by decide) ?_
              obtain rfl := Option.some.inj hF
              exact J78 _ _ _ hP hD hS (lv_sub hl [0, 1, 2, 3, 4] rfl)
  clear hF
  have hF := hy2
  clear hy2
  refine lv_if_eq (tgt := 175) hx hb dX5_bit_6 (by decide) (fun c83 => ?_) (fun c83 => ?_)
  · rw [if_pos c83] at hF
    obtain rfl := Option.some.inj hF
    exact J2 _ _ _ hP hD hS (lv_sub hl [0, 1, 2, 3] rfl)
  · rw [if_neg c83] at hF
    refine lv_bipush (v := (16 : Int32)) hx hb dX5_bit_9 (by decide) ?_
    refine lv_iload_n hx hb dX5_bit_11 rfl (lv_at hl 2 rfl) ?_
    refine lv_imul hx hb dX5_bit_12 ?_
    obtain ⟨x84, ex84, hF⟩ := ltt_some hF
    refine lv_topi (fun zx84 ezx84 => ?_)
    obtain rfl : x84 = zx84 := ex84.trans ezx84.symm
    refine lv_iload_n hx hb dX5_bit_13 rfl (lv_at hl 3 rfl) ?_
    refine lv_bipush (v := (15 : Int32)) hx hb dX5_bit_14 (by decide) ?_
    obtain ⟨y85, hy85, hF⟩ := bnd_some hF
    have J85 : ∀ (H : Heap) (locs : List Loc) (ls : Array Slot), va_P D classes (wld ct ad G M) H → va_D A (wld ct ad G M) → va_S A s.heap H locs → lv_has ls 8 [(3, .int (0 : Int32)), (0, .ref (ad a)), (1, .int p0), (2, .int p1)] → W p l e (headSpec wuX5_bit ({ frames := 0, cells := 0, slots := 0, locals := 0 })).room s m ([.ref (ad a), .int p0, .int p1] : List Value).toArray below meth c H locs 0 0 (MQ below (va_Qi (fun (q : Int32) (_ : Unit) => q = y.2) (fun _ t => kE D ct ad G A y.1 t) A) ([.ref (ad a), .int p0, .int p1] : List Value).toArray s 0 0 A) (F0 m 25 ls [.int y85, .int x84]) := by
      intro H locs ls hP hD hS hl
      refine lv_iadd hx hb dX5_bit_25 ?_
      obtain ⟨x86, ex86, hF⟩ := ltt_some hF
      refine lv_topi (fun zx86 ezx86 => ?_)
      obtain rfl : x86 = zx86 := ex86.trans ezx86.symm
      refine lv_istore (lv' := [(4, .int x86), (3, .int (0 : Int32)), (0, .ref (ad a)), (1, .int p0), (2, .int p1)]) hx hb dX5_bit_26 hl (by decide) rfl (fun ls hl => ?_)
      refine lv_aload_n hx hb dX5_bit_28 rfl (lv_at hl 2 rfl) ?_
      refine va_get (D := D) (ci := 5) (v := va_re ad (M.2 a 10)) (C := RX5) (T := TX5) (N := 17) hx hb hts (mus hf_X5) hown hK hP a (wld_o ct ad G M hc hk (by decide)) rfl 10 (by decide) (hts (.fieldLink RX5 11 "VideoSuite$Reader" "state" "[I") (mu mw_299)) (fun _ h9 => h9) rfl dX5_bit_29 ?_
      refine lv_iload hx hb dX5_bit_32 (lv_at hl 0 rfl) ?_
      obtain ⟨b87, ho87, hc87, hk87, hF⟩ := dr_some hF
      refine W_st (st' := [.int x86, .ref (ad b87)]) (by rw [va_some ho87]) ?_
      obtain ⟨hvc, hF⟩ := chk_some hF
      refine va_iald hx hb hK hP b87 1 (wld_i ct ad G M hc87 hk87) rfl hvc dX5_bit_34 ?_
      obtain ⟨x88, ex88, hF⟩ := ltt_some hF
      refine lv_topi (fun zx88 ezx88 => ?_)
      obtain rfl : x88 = zx88 := ex88.trans ezx88.symm
      refine lv_iconst (v := (1 : Int32)) hx hb dX5_bit_35 (by decide) ?_
      refine lv_ishr hx hb dX5_bit_36 ?_
      obtain ⟨x89, ex89, hF⟩ := ltt_some hF
      refine lv_topi (fun zx89 ezx89 => ?_)
      obtain rfl : x89 = zx89 := ex89.trans ezx89.symm
      refine lv_istore (lv' := [(5, .int x89), (4, .int x86), (3, .int (0 : Int32)), (0, .ref (ad a)), (1, .int p0), (2, .int p1)]) hx hb dX5_bit_37 hl (by decide) rfl (fun ls hl => ?_)
      refine lv_aload_n hx hb dX5_bit_39 rfl (lv_at hl 3 rfl) ?_
      refine va_get (D := D) (ci := 5) (v := va_re ad (M.2 a 10)) (C := RX5) (T := TX5) (N := 17) hx hb hts (mus hf_X5) hown hK hP a (wld_o ct ad G M hc hk (by decide)) rfl 10 (by decide) (hts (.fieldLink RX5 11 "VideoSuite$Reader" "state" "[I") (mu mw_299)) (fun _ h9 => h9) rfl dX5_bit_40 ?_
      refine lv_iload hx hb dX5_bit_43 (lv_at hl 1 rfl) ?_
      refine W_st (st' := [.int x86, .ref (ad b87)]) (by rw [va_some ho87]) ?_
      obtain ⟨hvc, hF⟩ := chk_some hF
      refine va_iald hx hb hK hP b87 1 (wld_i ct ad G M hc87 hk87) rfl hvc dX5_bit_45 ?_
      obtain ⟨x90, ex90, hF⟩ := ltt_some hF
      refine lv_topi (fun zx90 ezx90 => ?_)
      obtain rfl : x90 = zx90 := ex90.trans ezx90.symm
      refine lv_iconst (v := (1 : Int32)) hx hb dX5_bit_46 (by decide) ?_
      refine lv_iand hx hb dX5_bit_47 ?_
      obtain ⟨x91, ex91, hF⟩ := ltt_some hF
      refine lv_topi (fun zx91 ezx91 => ?_)
      obtain rfl : x91 = zx91 := ex91.trans ezx91.symm
      refine lv_istore (lv' := [(6, .int x91), (5, .int x89), (4, .int x86), (3, .int (0 : Int32)), (0, .ref (ad a)), (1, .int p0), (2, .int p1)]) hx hb dX5_bit_48 hl (by decide) rfl (fun ls hl => ?_)
      refine va_gets hx hb (hZ.1 8 (by decide)).1 hS hown (hts (.fieldLink RX5 93 "VideoSuite$Reader" "LOWER" "[I") (mu mw_1335)) (fun _ h => h) dX5_bit_50 ?_
      refine lv_iconst (v := (4 : Int32)) hx hb dX5_bit_53 (by decide) ?_
      refine lv_iload hx hb dX5_bit_54 (lv_at hl 1 rfl) ?_
      refine lv_imul hx hb dX5_bit_56 ?_
      obtain ⟨x92, ex92, hF⟩ := ltt_some hF
      refine lv_topi (fun zx92 ezx92 => ?_)
      obtain rfl : x92 = zx92 := ex92.trans ezx92.symm
      refine lv_aload_n hx hb dX5_bit_57 rfl (lv_at hl 4 rfl) ?_
      refine va_get (D := D) (ci := 5) (v := .int (M.1 a 8)) (C := RX5) (T := TX5) (N := 17) hx hb hts (mus hf_X5) hown hK hP a (wld_o ct ad G M hc hk (by decide)) rfl 8 (by decide) (hts (.fieldLink RX5 96 "VideoSuite$Reader" "range" "I") (mu mw_297)) (fun _ h9 => h9) rfl dX5_bit_58 ?_
      obtain ⟨x93, ex93, hF⟩ := ltt_some hF
      refine lv_topi (fun zx93 ezx93 => ?_)
      obtain rfl : x93 = zx93 := ex93.trans ezx93.symm
      refine lv_bipush (v := (6 : Int32)) hx hb dX5_bit_61 (by decide) ?_
      refine lv_ishr hx hb dX5_bit_63 ?_
      obtain ⟨x94, ex94, hF⟩ := ltt_some hF
      refine lv_topi (fun zx94 ezx94 => ?_)
      obtain rfl : x94 = zx94 := ex94.trans ezx94.symm
      refine lv_iconst (v := (3 : Int32)) hx hb dX5_bit_64 (by decide) ?_
      refine lv_iand hx hb dX5_bit_65 ?_
      obtain ⟨x95, ex95, hF⟩ := ltt_some hF
      refine lv_topi (fun zx95 ezx95 => ?_)
      obtain rfl : x95 = zx95 := ex95.trans ezx95.symm
      refine lv_iadd hx hb dX5_bit_66 ?_
      obtain ⟨x96, ex96, hF⟩ := ltt_some hF
      refine lv_topi (fun zx96 ezx96 => ?_)
      obtain rfl : x96 = zx96 := ex96.trans ezx96.symm
      obtain ⟨hvc, hF⟩ := chk_some hF
      refine va_ti (v := .int ((sT 8).getD x96.toNatClampNeg 0)) hx hb (hZ.1 8 (by decide)).2 hS hvc rfl dX5_bit_67 ?_
      obtain ⟨x97, ex97, hF⟩ := ltt_some hF
      refine lv_topi (fun zx97 ezx97 => ?_)
      obtain rfl : x97 = zx97 := ex97.trans ezx97.symm
      refine lv_istore (lv' := [(7, .int x97), (6, .int x91), (5, .int x89), (4, .int x86), (3, .int (0 : Int32)), (0, .ref (ad a)), (1, .int p0), (2, .int p1)]) hx hb dX5_bit_68 hl (by decide) rfl (fun ls hl => ?_)
      refine lv_iload hx hb dX5_bit_70 (lv_at hl 1 rfl) ?_
      refine lv_istore_n (lv' := [(3, .int x91), (7, .int x97), (6, .int x91), (5, .int x89), (4, .int x86), (0, .ref (ad a)), (1, .int p0), (2, .int p1)]) hx hb dX5_bit_72 rfl hl (by decide) rfl (fun ls hl => ?_)
      refine lv_aload_n hx hb dX5_bit_73 rfl (lv_at hl 5 rfl) ?_
      refine lv_dup hx hb dX5_bit_74 rfl ?_
      refine va_get (D := D) (ci := 5) (v := .int (M.1 a 8)) (C := RX5) (T := TX5) (N := 17) hx hb hts (mus hf_X5) hown hK hP a (wld_o ct ad G M hc hk (by decide)) rfl 8 (by decide) (hts (.fieldLink RX5 96 "VideoSuite$Reader" "range" "I") (mu mw_297)) (fun _ h9 => h9) rfl dX5_bit_75 ?_
      obtain ⟨x98, ex98, hF⟩ := ltt_some hF
      refine lv_topi (fun zx98 ezx98 => ?_)
      obtain rfl : x98 = zx98 := ex98.trans ezx98.symm
      refine lv_iload hx hb dX5_bit_78 (lv_at hl 1 rfl) ?_
      refine lv_isub hx hb dX5_bit_80 ?_
      obtain ⟨x99, ex99, hF⟩ := ltt_some hF
      refine lv_topi (fun zx99 ezx99 => ?_)
      obtain rfl : x99 = zx99 := ex99.trans ezx99.symm
      refine va_put (D := D) (ci := 5) (v := .int x99) (ty := .int) (C := RX5) (T := TX5) (N := 17) hx hb hts (mus hf_X5) tyX5 tyX5_ok nmX5 hown hK hP hD hS a (wld_o ct ad G M hc hk (by decide)) rfl 8 (by decide) (hts (.fieldLink RX5 96 "VideoSuite$Reader" "range" "I") (mu mw_297)) (fun _ h9 => h9) rfl (by decide +kernel) rfl rfl (Nat.le_of_ble_eq_true rfl) dX5_bit_81 (fun H locs hP hD hS => ?_)
      obtain ⟨M100, eM100, hF⟩ := ltt_some hF
      rw [set_oI ct ad G M hc hk (by decide) (by rfl), ← eM100] at hP hD
      refine lv_aload_n hx hb dX5_bit_84 rfl (lv_at hl 5 rfl) ?_
      refine va_get (D := D) (ci := 5) (v := .int (M100.1 a 9)) (C := RX5) (T := TX5) (N := 17) hx hb hts (mus hf_X5) hown hK hP a (wld_o ct ad G M100 hc hk (by decide)) rfl 9 (by decide) (hts (.fieldLink RX5 99 "VideoSuite$Reader" "offset" "I") (mu mw_298)) (fun _ h9 => h9) rfl dX5_bit_85 ?_
      obtain ⟨x101, ex101, hF⟩ := ltt_some hF
      refine lv_topi (fun zx101 ezx101 => ?_)
      obtain rfl : x101 = zx101 := ex101.trans ezx101.symm
      refine lv_aload_n hx hb dX5_bit_88 rfl (lv_at hl 5 rfl) ?_
      refine va_get (D := D) (ci := 5) (v := .int (M100.1 a 8)) (C := RX5) (T := TX5) (N := 17) hx hb hts (mus hf_X5) hown hK hP a (wld_o ct ad G M100 hc hk (by decide)) rfl 8 (by decide) (hts (.fieldLink RX5 96 "VideoSuite$Reader" "range" "I") (mu mw_297)) (fun _ h9 => h9) rfl dX5_bit_89 ?_
      obtain ⟨x102, ex102, hF⟩ := ltt_some hF
      refine lv_topi (fun zx102 ezx102 => ?_)
      obtain rfl : x102 = zx102 := ex102.trans ezx102.symm
      obtain ⟨y103, hy103, hF⟩ := bnd_some hF
      have J103 : ∀ (H : Heap) (locs : List Loc) (ls : Array Slot), va_P D classes (wld ct ad G y103.2.2.2) H → va_D A (wld ct ad G y103.2.2.2) → va_S A s.heap H locs → lv_has ls 8 [(3, .int y103.1), (7, .int x97), (6, .int y103.2.2.1), (5, .int y103.2.1), (4, .int x86), (0, .ref (ad a)), (1, .int p0), (2, .int p1)] → W p l e (headSpec wuX5_bit ({ frames := 0, cells := 0, slots := 0, locals := 0 })).room s m ([.ref (ad a), .int p0, .int p1] : List Value).toArray below meth c H locs 0 0 (MQ below (va_Qi (fun (q : Int32) (_ : Unit) => q = y.2) (fun _ t => kE D ct ad G A y.1 t) A) ([.ref (ad a), .int p0, .int p1] : List Value).toArray s 0 0 A) (F0 m 161 ls []) := by
        intro H locs ls hP hD hS hl
        refine lv_aload_n hx hb dX5_bit_161 rfl (lv_at hl 5 rfl) ?_
        refine va_get (D := D) (ci := 5) (v := va_re ad (y103.2.2.2.2 a 10)) (C := RX5) (T := TX5) (N := 17) hx hb hts (mus hf_X5) hown hK hP a (wld_o ct ad G y103.2.2.2 hc hk (by decide)) rfl 10 (by decide) (hts (.fieldLink RX5 11 "VideoSuite$Reader" "state" "[I") (mu mw_299)) (fun _ h9 => h9) rfl dX5_bit_162 ?_
        refine lv_iload hx hb dX5_bit_165 (lv_at hl 4 rfl) ?_
        refine lv_iload hx hb dX5_bit_167 (lv_at hl 3 rfl) ?_
        refine lv_iconst (v := (1 : Int32)) hx hb dX5_bit_169 (by decide) ?_
        refine lv_ishl hx hb dX5_bit_170 ?_
        obtain ⟨x104, ex104, hF⟩ := ltt_some hF
        refine lv_topi (fun zx104 ezx104 => ?_)
        obtain rfl : x104 = zx104 := ex104.trans ezx104.symm
        refine lv_iload hx hb dX5_bit_171 (lv_at hl 2 rfl) ?_
        refine lv_ior hx hb dX5_bit_173 ?_
        obtain ⟨x105, ex105, hF⟩ := ltt_some hF
        refine lv_topi (fun zx105 ezx105 => ?_)
        obtain rfl : x105 = zx105 := ex105.trans ezx105.symm
        obtain ⟨b106, ho106, hc106, hk106, hF⟩ := dr_some hF
        refine W_st (st' := [.int x105, .int x86, .ref (ad b106)]) (by rw [va_some ho106]) ?_
        obtain ⟨hvc, hF⟩ := chk_some hF
        refine va_iast hx hb hK hP hD hS b106 1 (wld_i ct ad G y103.2.2.2 hc106 hk106) rfl hvc dX5_bit_174 (fun H locs hP hD hS => ?_)
        obtain ⟨M107, eM107, hF⟩ := ltt_some hF
        rw [set_i ct ad G y103.2.2.2 hc106 hk106, ← eM107] at hP hD
        obtain rfl := Option.some.inj hF
        exact J2 _ _ _ hP hD hS (lv_sub hl [0, 5, 6, 7] rfl)
      clear hF
      have hF := hy103
      clear hy103
      refine lv_icmp_ge (tgt := 116) hx hb dX5_bit_92 (by decide) (fun c108 => ?_) (fun c108 => ?_)
      · rw [if_pos c108] at hF
        refine lv_iconst (v := (1 : Int32)) hx hb dX5_bit_116 (by decide) ?_
        refine lv_iload hx hb dX5_bit_117 (lv_at hl 2 rfl) ?_
        refine lv_isub hx hb dX5_bit_119 ?_
        obtain ⟨x109, ex109, hF⟩ := ltt_some hF
        refine lv_topi (fun zx109 ezx109 => ?_)
        obtain rfl : x109 = zx109 := ex109.trans ezx109.symm
        refine lv_istore_n (lv' := [(3, .int x109), (7, .int x97), (6, .int x91), (5, .int x89), (4, .int x86), (0, .ref (ad a)), (1, .int p0), (2, .int p1)]) hx hb dX5_bit_120 rfl hl (by decide) rfl (fun ls hl => ?_)
        refine lv_aload_n hx hb dX5_bit_121 rfl (lv_at hl 5 rfl) ?_
        refine lv_dup hx hb dX5_bit_122 rfl ?_
        refine va_get (D := D) (ci := 5) (v := .int (M100.1 a 9)) (C := RX5) (T := TX5) (N := 17) hx hb hts (mus hf_X5) hown hK hP a (wld_o ct ad G M100 hc hk (by decide)) rfl 9 (by decide) (hts (.fieldLink RX5 99 "VideoSuite$Reader" "offset" "I") (mu mw_298)) (fun _ h9 => h9) rfl dX5_bit_123 ?_
        obtain ⟨x110, ex110, hF⟩ := ltt_some hF
        refine lv_topi (fun zx110 ezx110 => ?_)
        obtain rfl : x110 = zx110 := ex110.trans ezx110.symm
        refine lv_aload_n hx hb dX5_bit_126 rfl (lv_at hl 5 rfl) ?_
        refine va_get (D := D) (ci := 5) (v := .int (M100.1 a 8)) (C := RX5) (T := TX5) (N := 17) hx hb hts (mus hf_X5) hown hK hP a (wld_o ct ad G M100 hc hk (by decide)) rfl 8 (by decide) (hts (.fieldLink RX5 96 "VideoSuite$Reader" "range" "I") (mu mw_297)) (fun _ h9 => h9) rfl dX5_bit_127 ?_
        obtain ⟨x111, ex111, hF⟩ := ltt_some hF
        refine lv_topi (fun zx111 ezx111 => ?_)
        obtain rfl : x111 = zx111 := ex111.trans ezx111.symm
        refine lv_isub hx hb dX5_bit_130 ?_
        obtain ⟨x112, ex112, hF⟩ := ltt_some hF
        refine lv_topi (fun zx112 ezx112 => ?_)
        obtain rfl : x112 = zx112 := ex112.trans ezx112.symm
        refine va_put (D := D) (ci := 5) (v := .int x112) (ty := .int) (C := RX5) (T := TX5) (N := 17) hx hb hts (mus hf_X5) tyX5 tyX5_ok nmX5 hown hK hP hD hS a (wld_o ct ad G M100 hc hk (by decide)) rfl 9 (by decide) (hts (.fieldLink RX5 99 "VideoSuite$Reader" "offset" "I") (mu mw_298)) (fun _ h9 => h9) rfl (by decide +kernel) rfl rfl (Nat.le_of_ble_eq_true rfl) dX5_bit_131 (fun H locs hP hD hS => ?_)
        obtain ⟨M113, eM113, hF⟩ := ltt_some hF
        rw [set_oI ct ad G M100 hc hk (by decide) (by rfl), ← eM113] at hP hD
        refine lv_aload_n hx hb dX5_bit_134 rfl (lv_at hl 5 rfl) ?_
        refine lv_iload hx hb dX5_bit_135 (lv_at hl 1 rfl) ?_
        refine va_put (D := D) (ci := 5) (v := .int x97) (ty := .int) (C := RX5) (T := TX5) (N := 17) hx hb hts (mus hf_X5) tyX5 tyX5_ok nmX5 hown hK hP hD hS a (wld_o ct ad G M113 hc hk (by decide)) rfl 8 (by decide) (hts (.fieldLink RX5 96 "VideoSuite$Reader" "range" "I") (mu mw_297)) (fun _ h9 => h9) rfl (by decide +kernel) rfl rfl (Nat.le_of_ble_eq_true rfl) dX5_bit_137 (fun H locs hP hD hS => ?_)
        obtain ⟨M114, eM114, hF⟩ := ltt_some hF
        rw [set_oI ct ad G M113 hc hk (by decide) (by rfl), ← eM114] at hP hD
        refine lv_iload hx hb dX5_bit_140 (lv_at hl 3 rfl) ?_
        obtain ⟨y115, hy115, hF⟩ := bnd_some hF
        have J115 : ∀ (H : Heap) (locs : List Loc) (ls : Array Slot), va_P D classes (wld ct ad G M114) H → va_D A (wld ct ad G M114) → va_S A s.heap H locs → lv_has ls 8 [(3, .int x109), (7, .int x97), (6, .int x91), (5, .int x89), (4, .int x86), (0, .ref (ad a)), (1, .int p0), (2, .int p1)] → W p l e (headSpec wuX5_bit ({ frames := 0, cells := 0, slots := 0, locals := 0 })).room s m ([.ref (ad a), .int p0, .int p1] : List Value).toArray below meth c H locs 0 0 (MQ below (va_Qi (fun (q : Int32) (_ : Unit) => q = y.2) (fun _ t => kE D ct ad G A y.1 t) A) ([.ref (ad a), .int p0, .int p1] : List Value).toArray s 0 0 A) (F0 m 151 ls [.int y115]) := by
          intro H locs ls hP hD hS hl
          refine lv_istore (lv' := [(6, .int y115), (3, .int x109), (7, .int x97), (5, .int x89), (4, .int x86), (0, .ref (ad a)), (1, .int p0), (2, .int p1)]) hx hb dX5_bit_151 hl (by decide) rfl (fun ls hl => ?_)
          refine va_gets hx hb (hZ.1 7 (by decide)).1 hS hown (hts (.fieldLink RX5 102 "VideoSuite$Reader" "DOWN" "[I") (mu mw_1336)) (fun _ h => h) dX5_bit_153 ?_
          refine lv_iload hx hb dX5_bit_156 (lv_at hl 3 rfl) ?_
          obtain ⟨hvc, hF⟩ := chk_some hF
          refine va_ti (v := .int ((sT 7).getD x89.toNatClampNeg 0)) hx hb (hZ.1 7 (by decide)).2 hS hvc rfl dX5_bit_158 ?_
          obtain ⟨x116, ex116, hF⟩ := ltt_some hF
          refine lv_topi (fun zx116 ezx116 => ?_)
          obtain rfl : x116 = zx116 := ex116.trans ezx116.symm
          refine lv_istore (lv' := [(5, .int x116), (6, .int y115), (3, .int x109), (7, .int x97), (4, .int x86), (0, .ref (ad a)), (1, .int p0), (2, .int p1)]) hx hb dX5_bit_159 hl (by decide) rfl (fun ls hl => ?_)
          obtain rfl := Option.some.inj hF
          exact J103 _ _ _ hP hD hS (lv_sub hl [2, 3, 1, 0, 4, 5, 6, 7] rfl)
        clear hF
        have hF := hy115
        clear hy115
        refine lv_if_ne (tgt := 149) hx hb dX5_bit_142 (by decide) (fun c117 => ?_) (fun c117 => ?_)
        · rw [if_neg c117] at hF
          refine lv_iload hx hb dX5_bit_149 (lv_at hl 2 rfl) ?_
          obtain rfl := Option.some.inj hF
          exact J115 _ _ _ hP hD hS (lv_sub hl [0, 1, 2, 3, 4, 5, 6, 7] rfl)
        · rw [if_pos c117] at hF
          refine lv_iload_n hx hb dX5_bit_145 rfl (lv_at hl 0 rfl) ?_
          refine lv_goto (tgt := 151) hx hb dX5_bit_146 (by decide) ?_
          obtain rfl := Option.some.inj hF
          exact J115 _ _ _ hP hD hS (lv_sub hl [0, 1, 2, 3, 4, 5, 6, 7] rfl)
      · rw [if_neg c108] at hF
        refine lv_iload hx hb dX5_bit_95 (lv_at hl 3 rfl) ?_
        refine lv_bipush (v := (62 : Int32)) hx hb dX5_bit_97 (by decide) ?_
        obtain ⟨y118, hy118, hF⟩ := bnd_some hF
        have J118 : ∀ (H : Heap) (locs : List Loc) (ls : Array Slot), va_P D classes (wld ct ad G M100) H → va_D A (wld ct ad G M100) → va_S A s.heap H locs → lv_has ls 8 [(3, .int x91), (7, .int x97), (6, .int x91), (5, .int x89), (4, .int x86), (0, .ref (ad a)), (1, .int p0), (2, .int p1)] → W p l e (headSpec wuX5_bit ({ frames := 0, cells := 0, slots := 0, locals := 0 })).room s m ([.ref (ad a), .int p0, .int p1] : List Value).toArray below meth c H locs 0 0 (MQ below (va_Qi (fun (q : Int32) (_ : Unit) => q = y.2) (fun _ t => kE D ct ad G A y.1 t) A) ([.ref (ad a), .int p0, .int p1] : List Value).toArray s 0 0 A) (F0 m 111 ls [.int y118]) := by
          intro H locs ls hP hD hS hl
          refine lv_istore (lv' := [(5, .int y118), (3, .int x91), (7, .int x97), (6, .int x91), (4, .int x86), (0, .ref (ad a)), (1, .int p0), (2, .int p1)]) hx hb dX5_bit_111 hl (by decide) rfl (fun ls hl => ?_)
          refine lv_goto (tgt := 161) hx hb dX5_bit_113 (by decide) ?_
          obtain rfl := Option.some.inj hF
          exact J103 _ _ _ hP hD hS (lv_sub hl [1, 2, 3, 0, 4, 5, 6, 7] rfl)
        clear hF
        have hF := hy118
        clear hy118
        refine lv_icmp_ge (tgt := 109) hx hb dX5_bit_99 (by decide) (fun c119 => ?_) (fun c119 => ?_)
        · rw [if_pos c119] at hF
          refine lv_bipush (v := (62 : Int32)) hx hb dX5_bit_109 (by decide) ?_
          obtain rfl := Option.some.inj hF
          exact J118 _ _ _ hP hD hS (lv_sub hl [0, 1, 2, 3, 4, 5, 6, 7] rfl)
        · rw [if_neg c119] at hF
          refine lv_iload hx hb dX5_bit_102 (lv_at hl 3 rfl) ?_
          refine lv_iconst (v := (1 : Int32)) hx hb dX5_bit_104 (by decide) ?_
          refine lv_iadd hx hb dX5_bit_105 ?_
          obtain ⟨x120, ex120, hF⟩ := ltt_some hF
          refine lv_topi (fun zx120 ezx120 => ?_)
          obtain rfl : x120 = zx120 := ex120.trans ezx120.symm
          refine lv_goto (tgt := 111) hx hb dX5_bit_106 (by decide) ?_
          obtain rfl := Option.some.inj hF
          exact J118 _ _ _ hP hD hS (lv_sub hl [0, 1, 2, 3, 4, 5, 6, 7] rfl)
    clear hF
    have hF := hy85
    clear hy85
    refine lv_icmp_ge (tgt := 23) hx hb dX5_bit_16 (by decide) (fun c121 => ?_) (fun c121 => ?_)
    · rw [if_pos c121] at hF
      refine lv_bipush (v := (15 : Int32)) hx hb dX5_bit_23 (by decide) ?_
      obtain rfl := Option.some.inj hF
      exact J85 _ _ _ hP hD hS (lv_sub hl [0, 1, 2, 3] rfl)
    · rw [if_neg c121] at hF
      refine lv_iload_n hx hb dX5_bit_19 rfl (lv_at hl 3 rfl) ?_
      refine lv_goto (tgt := 25) hx hb dX5_bit_20 (by decide) ?_
      obtain rfl := Option.some.inj hF
      exact J85 _ _ _ hP hD hS (lv_sub hl [0, 1, 2, 3] rfl)
theorem dX5_lengthOf_0 : decode cX5_lengthOf 0 = .ok (.getstatic 24, 3) := by decide +kernel
theorem dX5_lengthOf_3 : decode cX5_lengthOf 3 = .ok (.iload_n 0, 1) := by decide +kernel
theorem dX5_lengthOf_4 : decode cX5_lengthOf 4 = .ok (.iaload, 1) := by decide +kernel
theorem dX5_lengthOf_5 : decode cX5_lengthOf 5 = .ok (.iload_n 1, 1) := by decide +kernel
theorem dX5_lengthOf_6 : decode cX5_lengthOf 6 = .ok (.iadd, 1) := by decide +kernel
theorem dX5_lengthOf_7 : decode cX5_lengthOf 7 = .ok (.istore_n 2, 1) := by decide +kernel
theorem dX5_lengthOf_8 : decode cX5_lengthOf 8 = .ok (.iload_n 1, 1) := by decide +kernel
theorem dX5_lengthOf_9 : decode cX5_lengthOf 9 = .ok (.ifCond .lt 14, 3) := by decide +kernel
theorem dX5_lengthOf_12 : decode cX5_lengthOf 12 = .ok (.iload_n 2, 1) := by decide +kernel
theorem dX5_lengthOf_13 : decode cX5_lengthOf 13 = .ok (.getstatic 24, 3) := by decide +kernel
theorem dX5_lengthOf_16 : decode cX5_lengthOf 16 = .ok (.iload_n 0, 1) := by decide +kernel
theorem dX5_lengthOf_17 : decode cX5_lengthOf 17 = .ok (.iconst 1, 1) := by decide +kernel
theorem dX5_lengthOf_18 : decode cX5_lengthOf 18 = .ok (.iadd, 1) := by decide +kernel
theorem dX5_lengthOf_19 : decode cX5_lengthOf 19 = .ok (.iaload, 1) := by decide +kernel
theorem dX5_lengthOf_20 : decode cX5_lengthOf 20 = .ok (.if_icmp .lt 7, 3) := by decide +kernel
theorem dX5_lengthOf_23 : decode cX5_lengthOf 23 = .ok (.iconst 0, 1) := by decide +kernel
theorem dX5_lengthOf_24 : decode cX5_lengthOf 24 = .ok (.goto 10, 3) := by decide +kernel
theorem dX5_lengthOf_27 : decode cX5_lengthOf 27 = .ok (.getstatic 27, 3) := by decide +kernel
theorem dX5_lengthOf_30 : decode cX5_lengthOf 30 = .ok (.iconst 2, 1) := by decide +kernel
theorem dX5_lengthOf_31 : decode cX5_lengthOf 31 = .ok (.iload_n 2, 1) := by decide +kernel
theorem dX5_lengthOf_32 : decode cX5_lengthOf 32 = .ok (.imul, 1) := by decide +kernel
theorem dX5_lengthOf_33 : decode cX5_lengthOf 33 = .ok (.iaload, 1) := by decide +kernel
theorem dX5_lengthOf_34 : decode cX5_lengthOf 34 = .ok (.ireturn, 1) := by decide +kernel
def FX5_lengthOf (G : GG) (M : DD) (p0 : Int32) (p1 : Int32) : Option (DD × Int32) :=
  chk (¬ (p0 < 0 ∨ 30 ≤ p0.toNatClampNeg)) <|
  ltt ((sT 10).getD p0.toNatClampNeg 0) fun x1 =>
  ltt ((x1 + p1)) fun x2 =>
  bnd (if p1 < ((0 : Int32)) then (some ((0 : Int32))) else
  (ltt ((p0 + ((1 : Int32)))) fun x5 =>
  chk (¬ (x5 < 0 ∨ 30 ≤ x5.toNatClampNeg)) <|
  ltt ((sT 10).getD x5.toNatClampNeg 0) fun x6 =>
  bnd (if x2 < x6 then (ltt ((((2 : Int32)) * x2)) fun x9 =>
  chk (¬ (x9 < 0 ∨ 772 ≤ x9.toNatClampNeg)) <|
  ltt ((sT 6).getD x9.toNatClampNeg 0) fun x10 =>
  some (x10)) else
  (some ((0 : Int32)))) fun (y7 : Int32) =>
  some (y7))) fun (y3 : Int32) =>
  some (M, y3)
set_option maxHeartbeats 4000000 in
set_option maxRecDepth 100000 in
theorem kX5_lengthOf (l : Launch) (D : va_G) (ct : CT) (ad : Nat → Nat) (Z : Nat → Nat) (G : GG) (M : DD) (sz : Nat) (p0 : Int32) (p1 : Int32) (y : DD × Int32) (hF : FX5_lengthOf G M p0 p1 = some y) : Met l yX5_lengthOf wuX5_lengthOf ({ frames := 0, cells := 0, slots := 0, locals := 0 }) (va_Pc [.int p0, .int p1] (kB D ct ad Z G M sz)) (va_Qi (fun (q : Int32) (_ : Unit) => q = y.2) (fun _ t => kE D ct ad G (wA ad G sz) y.1 t) (wA ad G sz)) 0 0 (wA ad G sz) := by
  refine Met.ofW (cc := cX5_lengthOf) (maxL := 3) (ret := (some .int)) (by decide) rfl ?_
  intro p e s m args below meth c s₁ B hml hv
  obtain ⟨rfl, hsz, hP, hK, hD0, hZ, hN⟩ := hv
  have hx := B.exec
  have hb := B.bytes
  have hr := B.returns
  have hts := atoms_spec (ws := wuX5_lengthOf) B.pre
  have hown : s.vm.findClass RX5 = some m.cls := findClass_of_methodNamed B.named
  have hlocks := B.notSynchronized
  subst hsz
  have hD := wD_self (sz := s.heap.size) hD0
  have hA9 : ∀ q, s.heap.size ≤ q → wA ad G s.heap.size q := fun q h => Or.inr h
  generalize hAe : wA ad G s.heap.size = A at hD hA9 hZ ⊢
  have hS : va_S A s.heap s.heap [] := va_S.rf
  have hl := lv_entry ([.int p0, .int p1]) (n := 3) (Nat.le_of_ble_eq_true rfl)
  rw [lg_entry_eq]
  generalize (lg_sl ([.int p0, .int p1]) ++ List.replicate (3 - (lg_sl ([.int p0, .int p1])).length) Slot.unset).toArray = ls at hl ⊢
  have hl : lv_has ls 3 [(0, .int p0), (1, .int p1)] := hl
  unfold FX5_lengthOf at hF
  refine va_gets hx hb (hZ.1 10 (by decide)).1 hS hown (hts (.fieldLink RX5 24 "VideoSuite$Reader" "TABLE_AT" "[I") (mu mw_279)) (fun _ h => h) dX5_lengthOf_0 ?_
  refine lv_iload_n hx hb dX5_lengthOf_3 rfl (lv_at hl 0 rfl) ?_
  obtain ⟨hvc, hF⟩ := chk_some hF
  refine va_ti (v := .int ((sT 10).getD p0.toNatClampNeg 0)) hx hb (hZ.1 10 (by decide)).2 hS hvc rfl dX5_lengthOf_4 ?_
  obtain ⟨x1, ex1, hF⟩ := ltt_some hF
  refine lv_topi (fun zx1 ezx1 => ?_)
  obtain rfl : x1 = zx1 := ex1.trans ezx1.symm
  refine lv_iload_n hx hb dX5_lengthOf_5 rfl (lv_at hl 1 rfl) ?_
  refine lv_iadd hx hb dX5_lengthOf_6 ?_
  obtain ⟨x2, ex2, hF⟩ := ltt_some hF
  refine lv_topi (fun zx2 ezx2 => ?_)
  obtain rfl : x2 = zx2 := ex2.trans ezx2.symm
  refine lv_istore_n (lv' := [(2, .int x2), (0, .int p0), (1, .int p1)]) hx hb dX5_lengthOf_7 rfl hl (by decide) rfl (fun ls hl => ?_)
  refine lv_iload_n hx hb dX5_lengthOf_8 rfl (lv_at hl 2 rfl) ?_
  obtain ⟨y3, hy3, hF⟩ := bnd_some hF
  have J3 : ∀ (H : Heap) (locs : List Loc) (ls : Array Slot), va_P D classes (wld ct ad G M) H → va_D A (wld ct ad G M) → va_S A s.heap H locs → lv_has ls 3 [(2, .int x2), (0, .int p0), (1, .int p1)] → W p l e (headSpec wuX5_lengthOf ({ frames := 0, cells := 0, slots := 0, locals := 0 })).room s m ([.int p0, .int p1] : List Value).toArray below meth c H locs 0 0 (MQ below (va_Qi (fun (q : Int32) (_ : Unit) => q = y.2) (fun _ t => kE D ct ad G A y.1 t) A) ([.int p0, .int p1] : List Value).toArray s 0 0 A) (F0 m 34 ls [.int y3]) := by
    intro H locs ls hP hD hS hl
    obtain rfl := Option.some.inj hF
    exact W.iret (v := y3) hx hb hr (fun t ht hW => ⟨⟨_, (), rfl, rfl, ⟨by rw [ht]; exact hP, va_K.moved hW.alike hK, hD⟩⟩, hS.F ht⟩) hS.2.2 dX5_lengthOf_34
  clear hF
  have hF := hy3
  clear hy3
  refine lv_if_lt (tgt := 23) hx hb dX5_lengthOf_9 (by decide) (fun c4 => ?_) (fun c4 => ?_)
  · rw [if_pos c4] at hF
    refine lv_iconst (v := (0 : Int32)) hx hb dX5_lengthOf_23 (by decide) ?_
    refine lv_goto (tgt := 34) hx hb dX5_lengthOf_24 (by decide) ?_
    obtain rfl := Option.some.inj hF
    exact J3 _ _ _ hP hD hS (lv_sub hl [0, 1, 2] rfl)
  · rw [if_neg c4] at hF
    refine lv_iload_n hx hb dX5_lengthOf_12 rfl (lv_at hl 0 rfl) ?_
    refine va_gets hx hb (hZ.1 10 (by decide)).1 hS hown (hts (.fieldLink RX5 24 "VideoSuite$Reader" "TABLE_AT" "[I") (mu mw_279)) (fun _ h => h) dX5_lengthOf_13 ?_
    refine lv_iload_n hx hb dX5_lengthOf_16 rfl (lv_at hl 1 rfl) ?_
    refine lv_iconst (v := (1 : Int32)) hx hb dX5_lengthOf_17 (by decide) ?_
    refine lv_iadd hx hb dX5_lengthOf_18 ?_
    obtain ⟨x5, ex5, hF⟩ := ltt_some hF
    refine lv_topi (fun zx5 ezx5 => ?_)
    obtain rfl : x5 = zx5 := ex5.trans ezx5.symm
    obtain ⟨hvc, hF⟩ := chk_some hF
    refine va_ti (v := .int ((sT 10).getD x5.toNatClampNeg 0)) hx hb (hZ.1 10 (by decide)).2 hS hvc rfl dX5_lengthOf_19 ?_
    obtain ⟨x6, ex6, hF⟩ := ltt_some hF
    refine lv_topi (fun zx6 ezx6 => ?_)
    obtain rfl : x6 = zx6 := ex6.trans ezx6.symm
    obtain ⟨y7, hy7, hF⟩ := bnd_some hF
    have J7 : ∀ (H : Heap) (locs : List Loc) (ls : Array Slot), va_P D classes (wld ct ad G M) H → va_D A (wld ct ad G M) → va_S A s.heap H locs → lv_has ls 3 [(2, .int x2), (0, .int p0), (1, .int p1)] → W p l e (headSpec wuX5_lengthOf ({ frames := 0, cells := 0, slots := 0, locals := 0 })).room s m ([.int p0, .int p1] : List Value).toArray below meth c H locs 0 0 (MQ below (va_Qi (fun (q : Int32) (_ : Unit) => q = y.2) (fun _ t => kE D ct ad G A y.1 t) A) ([.int p0, .int p1] : List Value).toArray s 0 0 A) (F0 m 34 ls [.int y7]) := by
      intro H locs ls hP hD hS hl
      obtain rfl := Option.some.inj hF
      exact J3 _ _ _ hP hD hS (lv_sub hl [0, 1, 2] rfl)
    clear hF
    have hF := hy7
    clear hy7
    refine lv_icmp_lt (tgt := 27) hx hb dX5_lengthOf_20 (by decide) (fun c8 => ?_) (fun c8 => ?_)
    · rw [if_pos c8] at hF
      refine va_gets hx hb (hZ.1 6 (by decide)).1 hS hown (hts (.fieldLink RX5 27 "VideoSuite$Reader" "CODES" "[I") (mu mw_281)) (fun _ h => h) dX5_lengthOf_27 ?_
      refine lv_iconst (v := (2 : Int32)) hx hb dX5_lengthOf_30 (by decide) ?_
      refine lv_iload_n hx hb dX5_lengthOf_31 rfl (lv_at hl 0 rfl) ?_
      refine lv_imul hx hb dX5_lengthOf_32 ?_
      obtain ⟨x9, ex9, hF⟩ := ltt_some hF
      refine lv_topi (fun zx9 ezx9 => ?_)
      obtain rfl : x9 = zx9 := ex9.trans ezx9.symm
      obtain ⟨hvc, hF⟩ := chk_some hF
      refine va_ti (v := .int ((sT 6).getD x9.toNatClampNeg 0)) hx hb (hZ.1 6 (by decide)).2 hS hvc rfl dX5_lengthOf_33 ?_
      obtain ⟨x10, ex10, hF⟩ := ltt_some hF
      refine lv_topi (fun zx10 ezx10 => ?_)
      obtain rfl : x10 = zx10 := ex10.trans ezx10.symm
      obtain rfl := Option.some.inj hF
      exact J7 _ _ _ hP hD hS (lv_sub hl [0, 1, 2] rfl)
    · rw [if_neg c8] at hF
      refine lv_iconst (v := (0 : Int32)) hx hb dX5_lengthOf_23 (by decide) ?_
      refine lv_goto (tgt := 34) hx hb dX5_lengthOf_24 (by decide) ?_
      obtain rfl := Option.some.inj hF
      exact J7 _ _ _ hP hD hS (lv_sub hl [0, 1, 2] rfl)
theorem dX5_more_0 : decode cX5_more 0 = .ok (.aload_n 0, 1) := by decide +kernel
theorem dX5_more_1 : decode cX5_more 1 = .ok (.getfield 57, 3) := by decide +kernel
theorem dX5_more_4 : decode cX5_more 4 = .ok (.aload_n 0, 1) := by decide +kernel
theorem dX5_more_5 : decode cX5_more 5 = .ok (.getfield 54, 3) := by decide +kernel
theorem dX5_more_8 : decode cX5_more 8 = .ok (.if_icmp .ge 7, 3) := by decide +kernel
theorem dX5_more_11 : decode cX5_more 11 = .ok (.iconst 1, 1) := by decide +kernel
theorem dX5_more_12 : decode cX5_more 12 = .ok (.goto 4, 3) := by decide +kernel
theorem dX5_more_15 : decode cX5_more 15 = .ok (.iconst 0, 1) := by decide +kernel
theorem dX5_more_16 : decode cX5_more 16 = .ok (.ireturn, 1) := by decide +kernel
def FX5_more (G : GG) (M : DD) (a : Nat)  : Option (DD × Int32) :=
  ltt (M.1 a 2) fun x1 =>
  ltt (M.1 a 3) fun x2 =>
  bnd (if x2 ≤ x1 then (some ((0 : Int32))) else
  (some ((1 : Int32)))) fun (y3 : Int32) =>
  chk (y3 = 0 ∨ y3 = 1) <|
  some (M, y3)
set_option maxHeartbeats 4000000 in
set_option maxRecDepth 100000 in
theorem kX5_more (l : Launch) (D : va_G) (ct : CT) (ad : Nat → Nat) (Z : Nat → Nat) (G : GG) (M : DD) (sz : Nat) (a : Nat)  (y : DD × Int32) (hc : a < G.1) (hk : G.2.1 a = 5) (hF : FX5_more G M a  = some y) : Met l yX5_more wuX5_more ({ frames := 0, cells := 0, slots := 0, locals := 0 }) (va_Pc [.ref (ad a)] (kB D ct ad Z G M sz)) (va_Qi (fun (q : Int32) (_ : Unit) => q = y.2) (fun _ t => kE D ct ad G (wA ad G sz) y.1 t) (wA ad G sz)) 0 0 (wA ad G sz) := by
  refine Met.ofW (cc := cX5_more) (maxL := 1) (ret := (some .boolean)) (by decide) rfl ?_
  intro p e s m args below meth c s₁ B hml hv
  obtain ⟨rfl, hsz, hP, hK, hD0, hZ, hN⟩ := hv
  have hx := B.exec
  have hb := B.bytes
  have hr := B.returns
  have hts := atoms_spec (ws := wuX5_more) B.pre
  have hown : s.vm.findClass RX5 = some m.cls := findClass_of_methodNamed B.named
  have hlocks := B.notSynchronized
  subst hsz
  have hD := wD_self (sz := s.heap.size) hD0
  have hA9 : ∀ q, s.heap.size ≤ q → wA ad G s.heap.size q := fun q h => Or.inr h
  generalize hAe : wA ad G s.heap.size = A at hD hA9 hZ ⊢
  have hS : va_S A s.heap s.heap [] := va_S.rf
  have hl := lv_entry ([.ref (ad a)]) (n := 1) (Nat.le_of_ble_eq_true rfl)
  rw [lg_entry_eq]
  generalize (lg_sl ([.ref (ad a)]) ++ List.replicate (1 - (lg_sl ([.ref (ad a)])).length) Slot.unset).toArray = ls at hl ⊢
  have hl : lv_has ls 1 [(0, .ref (ad a))] := hl
  unfold FX5_more at hF
  refine lv_aload_n hx hb dX5_more_0 rfl (lv_at hl 0 rfl) ?_
  refine va_get (D := D) (ci := 5) (v := .int (M.1 a 2)) (C := RX5) (T := TX5) (N := 17) hx hb hts (mus hf_X5) hown hK hP a (wld_o ct ad G M hc hk (by decide)) rfl 2 (by decide) (hts (.fieldLink RX5 57 "VideoSuite$Reader" "place" "I") (mu mw_289)) (fun _ h9 => h9) rfl dX5_more_1 ?_
  obtain ⟨x1, ex1, hF⟩ := ltt_some hF
  refine lv_topi (fun zx1 ezx1 => ?_)
  obtain rfl : x1 = zx1 := ex1.trans ezx1.symm
  refine lv_aload_n hx hb dX5_more_4 rfl (lv_at hl 0 rfl) ?_
  refine va_get (D := D) (ci := 5) (v := .int (M.1 a 3)) (C := RX5) (T := TX5) (N := 17) hx hb hts (mus hf_X5) hown hK hP a (wld_o ct ad G M hc hk (by decide)) rfl 3 (by decide) (hts (.fieldLink RX5 54 "VideoSuite$Reader" "stop" "I") (mu mw_291)) (fun _ h9 => h9) rfl dX5_more_5 ?_
  obtain ⟨x2, ex2, hF⟩ := ltt_some hF
  refine lv_topi (fun zx2 ezx2 => ?_)
  obtain rfl : x2 = zx2 := ex2.trans ezx2.symm
  obtain ⟨y3, hy3, hF⟩ := bnd_some hF
  have J3 : ∀ (H : Heap) (locs : List Loc) (ls : Array Slot), va_P D classes (wld ct ad G M) H → va_D A (wld ct ad G M) → va_S A s.heap H locs → lv_has ls 1 [(0, .ref (ad a))] → W p l e (headSpec wuX5_more ({ frames := 0, cells := 0, slots := 0, locals := 0 })).room s m ([.ref (ad a)] : List Value).toArray below meth c H locs 0 0 (MQ below (va_Qi (fun (q : Int32) (_ : Unit) => q = y.2) (fun _ t => kE D ct ad G A y.1 t) A) ([.ref (ad a)] : List Value).toArray s 0 0 A) (F0 m 16 ls [.int y3]) := by
    intro H locs ls hP hD hS hl
    obtain ⟨hz9, hF⟩ := chk_some hF
    obtain rfl := Option.some.inj hF
    exact W.zret (v := y3) (ty := .boolean) hx hb hr (nar_z hz9).1 (fun t ht hW => ⟨⟨_, (), rfl, rfl, ⟨by rw [ht]; exact hP, va_K.moved hW.alike hK, hD⟩⟩, hS.F ht⟩) hS.2.2 dX5_more_16
  clear hF
  have hF := hy3
  clear hy3
  refine lv_icmp_ge (tgt := 15) hx hb dX5_more_8 (by decide) (fun c4 => ?_) (fun c4 => ?_)
  · rw [if_pos c4] at hF
    refine lv_iconst (v := (0 : Int32)) hx hb dX5_more_15 (by decide) ?_
    obtain rfl := Option.some.inj hF
    exact J3 _ _ _ hP hD hS (lv_sub hl [0] rfl)
  · rw [if_neg c4] at hF
    refine lv_iconst (v := (1 : Int32)) hx hb dX5_more_11 (by decide) ?_
    refine lv_goto (tgt := 16) hx hb dX5_more_12 (by decide) ?_
    obtain rfl := Option.some.inj hF
    exact J3 _ _ _ hP hD hS (lv_sub hl [0] rfl)
theorem dX5_plainBit_0 : decode cX5_plainBit 0 = .ok (.aload_n 0, 1) := by decide +kernel
theorem dX5_plainBit_1 : decode cX5_plainBit 1 = .ok (.getfield 57, 3) := by decide +kernel
theorem dX5_plainBit_4 : decode cX5_plainBit 4 = .ok (.aload_n 0, 1) := by decide +kernel
theorem dX5_plainBit_5 : decode cX5_plainBit 5 = .ok (.getfield 47, 3) := by decide +kernel
theorem dX5_plainBit_8 : decode cX5_plainBit 8 = .ok (.if_icmp .lt 12, 3) := by decide +kernel
theorem dX5_plainBit_11 : decode cX5_plainBit 11 = .ok (.aload_n 0, 1) := by decide +kernel
theorem dX5_plainBit_12 : decode cX5_plainBit 12 = .ok (.iconst 1, 1) := by decide +kernel
theorem dX5_plainBit_13 : decode cX5_plainBit 13 = .ok (.aload_n 0, 1) := by decide +kernel
theorem dX5_plainBit_14 : decode cX5_plainBit 14 = .ok (.getfield 60, 3) := by decide +kernel
theorem dX5_plainBit_17 : decode cX5_plainBit 17 = .ok (.invokevirtual 89, 3) := by decide +kernel
theorem dX5_plainBit_20 : decode cX5_plainBit 20 = .ok (.aload_n 0, 1) := by decide +kernel
theorem dX5_plainBit_21 : decode cX5_plainBit 21 = .ok (.getfield 40, 3) := by decide +kernel
theorem dX5_plainBit_24 : decode cX5_plainBit 24 = .ok (.iconst 1, 1) := by decide +kernel
theorem dX5_plainBit_25 : decode cX5_plainBit 25 = .ok (.aload_n 0, 1) := by decide +kernel
theorem dX5_plainBit_26 : decode cX5_plainBit 26 = .ok (.getfield 57, 3) := by decide +kernel
theorem dX5_plainBit_29 : decode cX5_plainBit 29 = .ok (.iconst 3, 1) := by decide +kernel
theorem dX5_plainBit_30 : decode cX5_plainBit 30 = .ok (.ishr, 1) := by decide +kernel
theorem dX5_plainBit_31 : decode cX5_plainBit 31 = .ok (.iadd, 1) := by decide +kernel
theorem dX5_plainBit_32 : decode cX5_plainBit 32 = .ok (.baload, 1) := by decide +kernel
theorem dX5_plainBit_33 : decode cX5_plainBit 33 = .ok (.bipush 7, 2) := by decide +kernel
theorem dX5_plainBit_35 : decode cX5_plainBit 35 = .ok (.aload_n 0, 1) := by decide +kernel
theorem dX5_plainBit_36 : decode cX5_plainBit 36 = .ok (.getfield 57, 3) := by decide +kernel
theorem dX5_plainBit_39 : decode cX5_plainBit 39 = .ok (.bipush 7, 2) := by decide +kernel
theorem dX5_plainBit_41 : decode cX5_plainBit 41 = .ok (.iand, 1) := by decide +kernel
theorem dX5_plainBit_42 : decode cX5_plainBit 42 = .ok (.isub, 1) := by decide +kernel
theorem dX5_plainBit_43 : decode cX5_plainBit 43 = .ok (.ishr, 1) := by decide +kernel
theorem dX5_plainBit_44 : decode cX5_plainBit 44 = .ok (.iconst 1, 1) := by decide +kernel
theorem dX5_plainBit_45 : decode cX5_plainBit 45 = .ok (.iand, 1) := by decide +kernel
theorem dX5_plainBit_46 : decode cX5_plainBit 46 = .ok (.istore_n 1, 1) := by decide +kernel
theorem dX5_plainBit_47 : decode cX5_plainBit 47 = .ok (.aload_n 0, 1) := by decide +kernel
theorem dX5_plainBit_48 : decode cX5_plainBit 48 = .ok (.dup, 1) := by decide +kernel
theorem dX5_plainBit_49 : decode cX5_plainBit 49 = .ok (.getfield 57, 3) := by decide +kernel
theorem dX5_plainBit_52 : decode cX5_plainBit 52 = .ok (.iconst 1, 1) := by decide +kernel
theorem dX5_plainBit_53 : decode cX5_plainBit 53 = .ok (.iadd, 1) := by decide +kernel
theorem dX5_plainBit_54 : decode cX5_plainBit 54 = .ok (.putfield 57, 3) := by decide +kernel
theorem dX5_plainBit_57 : decode cX5_plainBit 57 = .ok (.iload_n 1, 1) := by decide +kernel
theorem dX5_plainBit_58 : decode cX5_plainBit 58 = .ok (.ireturn, 1) := by decide +kernel
def FX5_plainBit (G : GG) (M : DD) (a : Nat)  : Option (DD × Int32) :=
  ltt (M.1 a 2) fun x1 =>
  ltt (M.1 a 1) fun x2 =>
  bnd (if x1 < x2 then (some (M)) else
  (ltt (M.1 a 4) fun x18 =>
  none)) fun (y3 : DD) =>
  ltt (y3.1 a 2) fun x4 =>
  ltt ((x4 >>> (((3 : Int32)) &&& 31))) fun x5 =>
  ltt ((((1 : Int32)) + x5)) fun x6 =>
  dr G 12 ((y3.2 a 0)) fun b7 =>
  chk (¬ (x6 < 0 ∨ G.2.2 b7 ≤ x6.toNatClampNeg)) <|
  ltt (y3.1 b7 x6.toNatClampNeg) fun x8 =>
  ltt (y3.1 a 2) fun x9 =>
  ltt ((x9 &&& ((7 : Int32)))) fun x10 =>
  ltt ((((7 : Int32)) - x10)) fun x11 =>
  ltt ((x8 >>> (x11 &&& 31))) fun x12 =>
  ltt ((x12 &&& ((1 : Int32)))) fun x13 =>
  ltt (y3.1 a 2) fun x14 =>
  ltt ((x14 + ((1 : Int32)))) fun x15 =>
  ltt (uI y3 a 2 x15) fun M16 =>
  some (M16, x13)
set_option maxHeartbeats 4000000 in
set_option maxRecDepth 100000 in
theorem kX5_plainBit (l : Launch) (D : va_G) (ct : CT) (ad : Nat → Nat) (Z : Nat → Nat) (G : GG) (M : DD) (sz : Nat) (a : Nat)  (y : DD × Int32) (hc : a < G.1) (hk : G.2.1 a = 5) (hF : FX5_plainBit G M a  = some y) : Met l yX5_plainBit wuX5_plainBit ({ frames := 0, cells := 0, slots := 0, locals := 0 }) (va_Pc [.ref (ad a)] (kB D ct ad Z G M sz)) (va_Qi (fun (q : Int32) (_ : Unit) => q = y.2) (fun _ t => kE D ct ad G (wA ad G sz) y.1 t) (wA ad G sz)) 0 0 (wA ad G sz) := by
  refine Met.ofW (cc := cX5_plainBit) (maxL := 2) (ret := (some .int)) (by decide) rfl ?_
  intro p e s m args below meth c s₁ B hml hv
  obtain ⟨rfl, hsz, hP, hK, hD0, hZ, hN⟩ := hv
  have hx := B.exec
  have hb := B.bytes
  have hr := B.returns
  have hts := atoms_spec (ws := wuX5_plainBit) B.pre
  have hown : s.vm.findClass RX5 = some m.cls := findClass_of_methodNamed B.named
  have hlocks := B.notSynchronized
  subst hsz
  have hD := wD_self (sz := s.heap.size) hD0
  have hA9 : ∀ q, s.heap.size ≤ q → wA ad G s.heap.size q := fun q h => Or.inr h
  generalize hAe : wA ad G s.heap.size = A at hD hA9 hZ ⊢
  have hS : va_S A s.heap s.heap [] := va_S.rf
  have hl := lv_entry ([.ref (ad a)]) (n := 2) (Nat.le_of_ble_eq_true rfl)
  rw [lg_entry_eq]
  generalize (lg_sl ([.ref (ad a)]) ++ List.replicate (2 - (lg_sl ([.ref (ad a)])).length) Slot.unset).toArray = ls at hl ⊢
  have hl : lv_has ls 2 [(0, .ref (ad a))] := hl
  unfold FX5_plainBit at hF
  refine lv_aload_n hx hb dX5_plainBit_0 rfl (lv_at hl 0 rfl) ?_
  refine va_get (D := D) (ci := 5) (v := .int (M.1 a 2)) (C := RX5) (T := TX5) (N := 17) hx hb hts (mus hf_X5) hown hK hP a (wld_o ct ad G M hc hk (by decide)) rfl 2 (by decide) (hts (.fieldLink RX5 57 "VideoSuite$Reader" "place" "I") (mu mw_289)) (fun _ h9 => h9) rfl dX5_plainBit_1 ?_
  obtain ⟨x1, ex1, hF⟩ := ltt_some hF
  refine lv_topi (fun zx1 ezx1 => ?_)
  obtain rfl : x1 = zx1 := ex1.trans ezx1.symm
  refine lv_aload_n hx hb dX5_plainBit_4 rfl (lv_at hl 0 rfl) ?_
  refine va_get (D := D) (ci := 5) (v := .int (M.1 a 1)) (C := RX5) (T := TX5) (N := 17) hx hb hts (mus hf_X5) hown hK hP a (wld_o ct ad G M hc hk (by decide)) rfl 1 (by decide) (hts (.fieldLink RX5 47 "VideoSuite$Reader" "total" "I") (mu mw_288)) (fun _ h9 => h9) rfl dX5_plainBit_5 ?_
  obtain ⟨x2, ex2, hF⟩ := ltt_some hF
  refine lv_topi (fun zx2 ezx2 => ?_)
  obtain rfl : x2 = zx2 := ex2.trans ezx2.symm
  obtain ⟨y3, hy3, hF⟩ := bnd_some hF
  have J3 : ∀ (H : Heap) (locs : List Loc) (ls : Array Slot), va_P D classes (wld ct ad G y3) H → va_D A (wld ct ad G y3) → va_S A s.heap H locs → lv_has ls 2 [(0, .ref (ad a))] → W p l e (headSpec wuX5_plainBit ({ frames := 0, cells := 0, slots := 0, locals := 0 })).room s m ([.ref (ad a)] : List Value).toArray below meth c H locs 0 0 (MQ below (va_Qi (fun (q : Int32) (_ : Unit) => q = y.2) (fun _ t => kE D ct ad G A y.1 t) A) ([.ref (ad a)] : List Value).toArray s 0 0 A) (F0 m 20 ls []) := by
    intro H locs ls hP hD hS hl
    refine lv_aload_n hx hb dX5_plainBit_20 rfl (lv_at hl 0 rfl) ?_
    refine va_get (D := D) (ci := 5) (v := va_re ad (y3.2 a 0)) (C := RX5) (T := TX5) (N := 17) hx hb hts (mus hf_X5) hown hK hP a (wld_o ct ad G y3 hc hk (by decide)) rfl 0 (by decide) (hts (.fieldLink RX5 40 "VideoSuite$Reader" "data" "[B") (mu mw_287)) (fun _ h9 => h9) rfl dX5_plainBit_21 ?_
    refine lv_iconst (v := (1 : Int32)) hx hb dX5_plainBit_24 (by decide) ?_
    refine lv_aload_n hx hb dX5_plainBit_25 rfl (lv_at hl 0 rfl) ?_
    refine va_get (D := D) (ci := 5) (v := .int (y3.1 a 2)) (C := RX5) (T := TX5) (N := 17) hx hb hts (mus hf_X5) hown hK hP a (wld_o ct ad G y3 hc hk (by decide)) rfl 2 (by decide) (hts (.fieldLink RX5 57 "VideoSuite$Reader" "place" "I") (mu mw_289)) (fun _ h9 => h9) rfl dX5_plainBit_26 ?_
    obtain ⟨x4, ex4, hF⟩ := ltt_some hF
    refine lv_topi (fun zx4 ezx4 => ?_)
    obtain rfl : x4 = zx4 := ex4.trans ezx4.symm
    refine lv_iconst (v := (3 : Int32)) hx hb dX5_plainBit_29 (by decide) ?_
    refine lv_ishr hx hb dX5_plainBit_30 ?_
    obtain ⟨x5, ex5, hF⟩ := ltt_some hF
    refine lv_topi (fun zx5 ezx5 => ?_)
    obtain rfl : x5 = zx5 := ex5.trans ezx5.symm
    refine lv_iadd hx hb dX5_plainBit_31 ?_
    obtain ⟨x6, ex6, hF⟩ := ltt_some hF
    refine lv_topi (fun zx6 ezx6 => ?_)
    obtain rfl : x6 = zx6 := ex6.trans ezx6.symm
    obtain ⟨b7, ho7, hc7, hk7, hF⟩ := dr_some hF
    refine W_st (st' := [.int x6, .ref (ad b7)]) (by rw [va_some ho7]) ?_
    obtain ⟨hvc, hF⟩ := chk_some hF
    refine va_bald hx hb hK hP b7 0 (wld_b ct ad G y3 hc7 hk7) rfl hvc dX5_plainBit_32 ?_
    obtain ⟨x8, ex8, hF⟩ := ltt_some hF
    refine lv_topi (fun zx8 ezx8 => ?_)
    obtain rfl : x8 = zx8 := ex8.trans ezx8.symm
    refine lv_bipush (v := (7 : Int32)) hx hb dX5_plainBit_33 (by decide) ?_
    refine lv_aload_n hx hb dX5_plainBit_35 rfl (lv_at hl 0 rfl) ?_
    refine va_get (D := D) (ci := 5) (v := .int (y3.1 a 2)) (C := RX5) (T := TX5) (N := 17) hx hb hts (mus hf_X5) hown hK hP a (wld_o ct ad G y3 hc hk (by decide)) rfl 2 (by decide) (hts (.fieldLink RX5 57 "VideoSuite$Reader" "place" "I") (mu mw_289)) (fun _ h9 => h9) rfl dX5_plainBit_36 ?_
    obtain ⟨x9, ex9, hF⟩ := ltt_some hF
    refine lv_topi (fun zx9 ezx9 => ?_)
    obtain rfl : x9 = zx9 := ex9.trans ezx9.symm
    refine lv_bipush (v := (7 : Int32)) hx hb dX5_plainBit_39 (by decide) ?_
    refine lv_iand hx hb dX5_plainBit_41 ?_
    obtain ⟨x10, ex10, hF⟩ := ltt_some hF
    refine lv_topi (fun zx10 ezx10 => ?_)
    obtain rfl : x10 = zx10 := ex10.trans ezx10.symm
    refine lv_isub hx hb dX5_plainBit_42 ?_
    obtain ⟨x11, ex11, hF⟩ := ltt_some hF
    refine lv_topi (fun zx11 ezx11 => ?_)
    obtain rfl : x11 = zx11 := ex11.trans ezx11.symm
    refine lv_ishr hx hb dX5_plainBit_43 ?_
    obtain ⟨x12, ex12, hF⟩ := ltt_some hF
    refine lv_topi (fun zx12 ezx12 => ?_)
    obtain rfl : x12 = zx12 := ex12.trans ezx12.symm
    refine lv_iconst (v := (1 : Int32)) hx hb dX5_plainBit_44 (by decide) ?_
    refine lv_iand hx hb dX5_plainBit_45 ?_
    obtain ⟨x13, ex13, hF⟩ := ltt_some hF
    refine lv_topi (fun zx13 ezx13 => ?_)
    obtain rfl : x13 = zx13 := ex13.trans ezx13.symm
    refine lv_istore_n (lv' := [(1, .int x13), (0, .ref (ad a))]) hx hb dX5_plainBit_46 rfl hl (by decide) rfl (fun ls hl => ?_)
    refine lv_aload_n hx hb dX5_plainBit_47 rfl (lv_at hl 1 rfl) ?_
    refine lv_dup hx hb dX5_plainBit_48 rfl ?_
    refine va_get (D := D) (ci := 5) (v := .int (y3.1 a 2)) (C := RX5) (T := TX5) (N := 17) hx hb hts (mus hf_X5) hown hK hP a (wld_o ct ad G y3 hc hk (by decide)) rfl 2 (by decide) (hts (.fieldLink RX5 57 "VideoSuite$Reader" "place" "I") (mu mw_289)) (fun _ h9 => h9) rfl dX5_plainBit_49 ?_
    obtain ⟨x14, ex14, hF⟩ := ltt_some hF
    refine lv_topi (fun zx14 ezx14 => ?_)
    obtain rfl : x14 = zx14 := ex14.trans ezx14.symm
    refine lv_iconst (v := (1 : Int32)) hx hb dX5_plainBit_52 (by decide) ?_
    refine lv_iadd hx hb dX5_plainBit_53 ?_
    obtain ⟨x15, ex15, hF⟩ := ltt_some hF
    refine lv_topi (fun zx15 ezx15 => ?_)
    obtain rfl : x15 = zx15 := ex15.trans ezx15.symm
    refine va_put (D := D) (ci := 5) (v := .int x15) (ty := .int) (C := RX5) (T := TX5) (N := 17) hx hb hts (mus hf_X5) tyX5 tyX5_ok nmX5 hown hK hP hD hS a (wld_o ct ad G y3 hc hk (by decide)) rfl 2 (by decide) (hts (.fieldLink RX5 57 "VideoSuite$Reader" "place" "I") (mu mw_289)) (fun _ h9 => h9) rfl (by decide +kernel) rfl rfl (Nat.le_of_ble_eq_true rfl) dX5_plainBit_54 (fun H locs hP hD hS => ?_)
    obtain ⟨M16, eM16, hF⟩ := ltt_some hF
    rw [set_oI ct ad G y3 hc hk (by decide) (by rfl), ← eM16] at hP hD
    refine lv_iload_n hx hb dX5_plainBit_57 rfl (lv_at hl 0 rfl) ?_
    obtain rfl := Option.some.inj hF
    exact W.iret (v := x13) hx hb hr (fun t ht hW => ⟨⟨_, (), rfl, rfl, ⟨by rw [ht]; exact hP, va_K.moved hW.alike hK, hD⟩⟩, hS.F ht⟩) hS.2.2 dX5_plainBit_58
  clear hF
  have hF := hy3
  clear hy3
  refine lv_icmp_lt (tgt := 20) hx hb dX5_plainBit_8 (by decide) (fun c17 => ?_) (fun c17 => ?_)
  · rw [if_pos c17] at hF
    obtain rfl := Option.some.inj hF
    exact J3 _ _ _ hP hD hS (lv_sub hl [0] rfl)
  · rw [if_neg c17] at hF
    refine lv_aload_n hx hb dX5_plainBit_11 rfl (lv_at hl 0 rfl) ?_
    refine lv_iconst (v := (1 : Int32)) hx hb dX5_plainBit_12 (by decide) ?_
    refine lv_aload_n hx hb dX5_plainBit_13 rfl (lv_at hl 0 rfl) ?_
    refine va_get (D := D) (ci := 5) (v := .int (M.1 a 4)) (C := RX5) (T := TX5) (N := 17) hx hb hts (mus hf_X5) hown hK hP a (wld_o ct ad G M hc hk (by decide)) rfl 4 (by decide) (hts (.fieldLink RX5 60 "VideoSuite$Reader" "begin" "I") (mu mw_292)) (fun _ h9 => h9) rfl dX5_plainBit_14 ?_
    obtain ⟨x18, ex18, hF⟩ := ltt_some hF
    refine lv_topi (fun zx18 ezx18 => ?_)
    obtain rfl : x18 = zx18 := ex18.trans ezx18.symm
    cases hF
theorem dX5_plant_0 : decode cX5_plant 0 = .ok (.iload_n 1, 1) := by decide +kernel
theorem dX5_plant_1 : decode cX5_plant 1 = .ok (.istore 6, 2) := by decide +kernel
theorem dX5_plant_3 : decode cX5_plant 3 = .ok (.iload 5, 2) := by decide +kernel
theorem dX5_plant_5 : decode cX5_plant 5 = .ok (.istore 7, 2) := by decide +kernel
theorem dX5_plant_7 : decode cX5_plant 7 = .ok (.iload_n 3, 1) := by decide +kernel
theorem dX5_plant_8 : decode cX5_plant 8 = .ok (.iconst 1, 1) := by decide +kernel
theorem dX5_plant_9 : decode cX5_plant 9 = .ok (.isub, 1) := by decide +kernel
theorem dX5_plant_10 : decode cX5_plant 10 = .ok (.istore 8, 2) := by decide +kernel
theorem dX5_plant_12 : decode cX5_plant 12 = .ok (.iload 8, 2) := by decide +kernel
theorem dX5_plant_14 : decode cX5_plant 14 = .ok (.ifCond .le 54, 3) := by decide +kernel
theorem dX5_plant_17 : decode cX5_plant 17 = .ok (.iconst 2, 1) := by decide +kernel
theorem dX5_plant_18 : decode cX5_plant 18 = .ok (.iload 6, 2) := by decide +kernel
theorem dX5_plant_20 : decode cX5_plant 20 = .ok (.imul, 1) := by decide +kernel
theorem dX5_plant_21 : decode cX5_plant 21 = .ok (.iload 4, 2) := by decide +kernel
theorem dX5_plant_23 : decode cX5_plant 23 = .ok (.iload 8, 2) := by decide +kernel
theorem dX5_plant_25 : decode cX5_plant 25 = .ok (.ishr, 1) := by decide +kernel
theorem dX5_plant_26 : decode cX5_plant 26 = .ok (.iconst 1, 1) := by decide +kernel
theorem dX5_plant_27 : decode cX5_plant 27 = .ok (.iand, 1) := by decide +kernel
theorem dX5_plant_28 : decode cX5_plant 28 = .ok (.iadd, 1) := by decide +kernel
theorem dX5_plant_29 : decode cX5_plant 29 = .ok (.istore 9, 2) := by decide +kernel
theorem dX5_plant_31 : decode cX5_plant 31 = .ok (.aload_n 0, 1) := by decide +kernel
theorem dX5_plant_32 : decode cX5_plant 32 = .ok (.getfield 18, 3) := by decide +kernel
theorem dX5_plant_35 : decode cX5_plant 35 = .ok (.iload 9, 2) := by decide +kernel
theorem dX5_plant_37 : decode cX5_plant 37 = .ok (.iaload, 1) := by decide +kernel
theorem dX5_plant_38 : decode cX5_plant 38 = .ok (.ifCond .ne 15, 3) := by decide +kernel
theorem dX5_plant_41 : decode cX5_plant 41 = .ok (.aload_n 0, 1) := by decide +kernel
theorem dX5_plant_42 : decode cX5_plant 42 = .ok (.getfield 18, 3) := by decide +kernel
theorem dX5_plant_45 : decode cX5_plant 45 = .ok (.iload 9, 2) := by decide +kernel
theorem dX5_plant_47 : decode cX5_plant 47 = .ok (.iload 7, 2) := by decide +kernel
theorem dX5_plant_49 : decode cX5_plant 49 = .ok (.iinc 7 1, 3) := by decide +kernel
theorem dX5_plant_52 : decode cX5_plant 52 = .ok (.iastore, 1) := by decide +kernel
theorem dX5_plant_53 : decode cX5_plant 53 = .ok (.aload_n 0, 1) := by decide +kernel
theorem dX5_plant_54 : decode cX5_plant 54 = .ok (.getfield 18, 3) := by decide +kernel
theorem dX5_plant_57 : decode cX5_plant 57 = .ok (.iload 9, 2) := by decide +kernel
theorem dX5_plant_59 : decode cX5_plant 59 = .ok (.iaload, 1) := by decide +kernel
theorem dX5_plant_60 : decode cX5_plant 60 = .ok (.istore 6, 2) := by decide +kernel
theorem dX5_plant_62 : decode cX5_plant 62 = .ok (.iinc 8 (-1), 3) := by decide +kernel
theorem dX5_plant_65 : decode cX5_plant 65 = .ok (.goto (-53), 3) := by decide +kernel
theorem dX5_plant_68 : decode cX5_plant 68 = .ok (.aload_n 0, 1) := by decide +kernel
theorem dX5_plant_69 : decode cX5_plant 69 = .ok (.getfield 18, 3) := by decide +kernel
theorem dX5_plant_72 : decode cX5_plant 72 = .ok (.iconst 2, 1) := by decide +kernel
theorem dX5_plant_73 : decode cX5_plant 73 = .ok (.iload 6, 2) := by decide +kernel
theorem dX5_plant_75 : decode cX5_plant 75 = .ok (.imul, 1) := by decide +kernel
theorem dX5_plant_76 : decode cX5_plant 76 = .ok (.iload 4, 2) := by decide +kernel
theorem dX5_plant_78 : decode cX5_plant 78 = .ok (.iconst 1, 1) := by decide +kernel
theorem dX5_plant_79 : decode cX5_plant 79 = .ok (.iand, 1) := by decide +kernel
theorem dX5_plant_80 : decode cX5_plant 80 = .ok (.iadd, 1) := by decide +kernel
theorem dX5_plant_81 : decode cX5_plant 81 = .ok (.iconst (-1), 1) := by decide +kernel
theorem dX5_plant_82 : decode cX5_plant 82 = .ok (.iload_n 2, 1) := by decide +kernel
theorem dX5_plant_83 : decode cX5_plant 83 = .ok (.isub, 1) := by decide +kernel
theorem dX5_plant_84 : decode cX5_plant 84 = .ok (.iastore, 1) := by decide +kernel
theorem dX5_plant_85 : decode cX5_plant 85 = .ok (.iload 7, 2) := by decide +kernel
theorem dX5_plant_87 : decode cX5_plant 87 = .ok (.ireturn, 1) := by decide +kernel
def FX5_plant (G : GG) (M : DD) (a : Nat) (p0 : Int32) (p1 : Int32) (p2 : Int32) (p3 : Int32) (p4 : Int32) : Option (DD × Int32) :=
  ltt ((p2 - ((1 : Int32)))) fun x1 =>
  bnd (itr (fun (s3 : Int32 × Int32 × Int32 × DD) => ((if s3.2.2.1 ≤ ((0 : Int32)) then (some (.inr (s3.1, s3.2.1, s3.2.2.1, s3.2.2.2))) else
  (ltt ((((2 : Int32)) * s3.1)) fun x13 =>
  ltt ((p3 >>> (s3.2.2.1 &&& 31))) fun x14 =>
  ltt ((x14 &&& ((1 : Int32)))) fun x15 =>
  ltt ((x13 + x15)) fun x16 =>
  dr G 13 ((s3.2.2.2.2 a 13)) fun b17 =>
  chk (¬ (x16 < 0 ∨ G.2.2 b17 ≤ x16.toNatClampNeg)) <|
  ltt (s3.2.2.2.1 b17 x16.toNatClampNeg) fun x18 =>
  bnd (if x18 = ((0 : Int32)) then (ltt (s3.2.1 + (1 : Int32)) fun x24 =>
  chk (¬ (x16 < 0 ∨ G.2.2 b17 ≤ x16.toNatClampNeg)) <|
  ltt (uI s3.2.2.2 b17 x16.toNatClampNeg s3.2.1) fun M25 =>
  some (x24, M25)) else
  (some (s3.2.1, s3.2.2.2))) fun (y19 : Int32 × DD) =>
  dr G 13 ((y19.2.2 a 13)) fun b20 =>
  chk (¬ (x16 < 0 ∨ G.2.2 b20 ≤ x16.toNatClampNeg)) <|
  ltt (y19.2.1 b20 x16.toNatClampNeg) fun x21 =>
  ltt (s3.2.2.1 + (-1 : Int32)) fun x22 =>
  some (.inl (x21, y19.1, x22, y19.2)))) : Option ((Int32 × Int32 × Int32 × DD) ⊕ (Int32 × Int32 × Int32 × DD)))) 1000000 (p0, p4, x1, M)) fun (y2 : Int32 × Int32 × Int32 × DD) =>
  ltt ((((2 : Int32)) * y2.1)) fun x5 =>
  ltt ((p3 &&& ((1 : Int32)))) fun x6 =>
  ltt ((x5 + x6)) fun x7 =>
  ltt ((((-1 : Int32)) - p1)) fun x8 =>
  dr G 13 ((y2.2.2.2.2 a 13)) fun b9 =>
  chk (¬ (x7 < 0 ∨ G.2.2 b9 ≤ x7.toNatClampNeg)) <|
  ltt (uI y2.2.2.2 b9 x7.toNatClampNeg x8) fun M10 =>
  some (M10, y2.2.1)
set_option maxHeartbeats 4000000 in
set_option maxRecDepth 100000 in
theorem kX5_plant (l : Launch) (D : va_G) (ct : CT) (ad : Nat → Nat) (Z : Nat → Nat) (G : GG) (M : DD) (sz : Nat) (a : Nat) (p0 : Int32) (p1 : Int32) (p2 : Int32) (p3 : Int32) (p4 : Int32) (y : DD × Int32) (hc : a < G.1) (hk : G.2.1 a = 5) (hF : FX5_plant G M a p0 p1 p2 p3 p4 = some y) : Met l yX5_plant wuX5_plant ({ frames := 0, cells := 0, slots := 0, locals := 0 }) (va_Pc [.ref (ad a), .int p0, .int p1, .int p2, .int p3, .int p4] (kB D ct ad Z G M sz)) (va_Qi (fun (q : Int32) (_ : Unit) => q = y.2) (fun _ t => kE D ct ad G (wA ad G sz) y.1 t) (wA ad G sz)) 0 0 (wA ad G sz) := by
  refine Met.ofW (cc := cX5_plant) (maxL := 10) (ret := (some .int)) (by decide) rfl ?_
  intro p e s m args below meth c s₁ B hml hv
  obtain ⟨rfl, hsz, hP, hK, hD0, hZ, hN⟩ := hv
  have hx := B.exec
  have hb := B.bytes
  have hr := B.returns
  have hts := atoms_spec (ws := wuX5_plant) B.pre
  have hown : s.vm.findClass RX5 = some m.cls := findClass_of_methodNamed B.named
  have hlocks := B.notSynchronized
  subst hsz
  have hD := wD_self (sz := s.heap.size) hD0
  have hA9 : ∀ q, s.heap.size ≤ q → wA ad G s.heap.size q := fun q h => Or.inr h
  generalize hAe : wA ad G s.heap.size = A at hD hA9 hZ ⊢
  have hS : va_S A s.heap s.heap [] := va_S.rf
  have hl := lv_entry ([.ref (ad a), .int p0, .int p1, .int p2, .int p3, .int p4]) (n := 10) (Nat.le_of_ble_eq_true rfl)
  rw [lg_entry_eq]
  generalize (lg_sl ([.ref (ad a), .int p0, .int p1, .int p2, .int p3, .int p4]) ++ List.replicate (10 - (lg_sl ([.ref (ad a), .int p0, .int p1, .int p2, .int p3, .int p4])).length) Slot.unset).toArray = ls at hl ⊢
  have hl : lv_has ls 10 [(0, .ref (ad a)), (1, .int p0), (2, .int p1), (3, .int p2), (4, .int p3), (5, .int p4)] := hl
  unfold FX5_plant at hF
  refine lv_iload_n hx hb dX5_plant_0 rfl (lv_at hl 1 rfl) ?_
  refine lv_istore (lv' := [(6, .int p0), (0, .ref (ad a)), (1, .int p0), (2, .int p1), (3, .int p2), (4, .int p3), (5, .int p4)]) hx hb dX5_plant_1 hl (by decide) rfl (fun ls hl => ?_)
  refine lv_iload hx hb dX5_plant_3 (lv_at hl 6 rfl) ?_
  refine lv_istore (lv' := [(7, .int p4), (6, .int p0), (0, .ref (ad a)), (1, .int p0), (2, .int p1), (3, .int p2), (4, .int p3), (5, .int p4)]) hx hb dX5_plant_5 hl (by decide) rfl (fun ls hl => ?_)
  refine lv_iload_n hx hb dX5_plant_7 rfl (lv_at hl 5 rfl) ?_
  refine lv_iconst (v := (1 : Int32)) hx hb dX5_plant_8 (by decide) ?_
  refine lv_isub hx hb dX5_plant_9 ?_
  obtain ⟨x1, ex1, hF⟩ := ltt_some hF
  refine lv_topi (fun zx1 ezx1 => ?_)
  obtain rfl : x1 = zx1 := ex1.trans ezx1.symm
  refine lv_istore (lv' := [(8, .int x1), (7, .int p4), (6, .int p0), (0, .ref (ad a)), (1, .int p0), (2, .int p1), (3, .int p2), (4, .int p3), (5, .int p4)]) hx hb dX5_plant_10 hl (by decide) rfl (fun ls hl => ?_)
  obtain ⟨y2, hy2, hF⟩ := bnd_some hF
  have K2 : ∀ (H : Heap) (locs : List Loc) (ls : Array Slot), va_P D classes (wld ct ad G y2.2.2.2) H → va_D A (wld ct ad G y2.2.2.2) → va_S A s.heap H locs → lv_has ls 10 [(8, .int y2.2.2.1), (7, .int y2.2.1), (6, .int y2.1), (0, .ref (ad a)), (1, .int p0), (2, .int p1), (3, .int p2), (4, .int p3), (5, .int p4)] → W p l e (headSpec wuX5_plant ({ frames := 0, cells := 0, slots := 0, locals := 0 })).room s m ([.ref (ad a), .int p0, .int p1, .int p2, .int p3, .int p4] : List Value).toArray below meth c H locs 0 0 (MQ below (va_Qi (fun (q : Int32) (_ : Unit) => q = y.2) (fun _ t => kE D ct ad G A y.1 t) A) ([.ref (ad a), .int p0, .int p1, .int p2, .int p3, .int p4] : List Value).toArray s 0 0 A) (F0 m 68 ls []) := by
    intro H locs ls hP hD hS hl
    refine lv_aload_n hx hb dX5_plant_68 rfl (lv_at hl 3 rfl) ?_
    refine va_get (D := D) (ci := 5) (v := va_re ad (y2.2.2.2.2 a 13)) (C := RX5) (T := TX5) (N := 17) hx hb hts (mus hf_X5) hown hK hP a (wld_o ct ad G y2.2.2.2 hc hk (by decide)) rfl 13 (by decide) (hts (.fieldLink RX5 18 "VideoSuite$Reader" "tree" "[I") (mu mw_304)) (fun _ h9 => h9) rfl dX5_plant_69 ?_
    refine lv_iconst (v := (2 : Int32)) hx hb dX5_plant_72 (by decide) ?_
    refine lv_iload hx hb dX5_plant_73 (lv_at hl 2 rfl) ?_
    refine lv_imul hx hb dX5_plant_75 ?_
    obtain ⟨x5, ex5, hF⟩ := ltt_some hF
    refine lv_topi (fun zx5 ezx5 => ?_)
    obtain rfl : x5 = zx5 := ex5.trans ezx5.symm
    refine lv_iload hx hb dX5_plant_76 (lv_at hl 7 rfl) ?_
    refine lv_iconst (v := (1 : Int32)) hx hb dX5_plant_78 (by decide) ?_
    refine lv_iand hx hb dX5_plant_79 ?_
    obtain ⟨x6, ex6, hF⟩ := ltt_some hF
    refine lv_topi (fun zx6 ezx6 => ?_)
    obtain rfl : x6 = zx6 := ex6.trans ezx6.symm
    refine lv_iadd hx hb dX5_plant_80 ?_
    obtain ⟨x7, ex7, hF⟩ := ltt_some hF
    refine lv_topi (fun zx7 ezx7 => ?_)
    obtain rfl : x7 = zx7 := ex7.trans ezx7.symm
    refine lv_iconst (v := (-1 : Int32)) hx hb dX5_plant_81 (by decide) ?_
    refine lv_iload_n hx hb dX5_plant_82 rfl (lv_at hl 5 rfl) ?_
    refine lv_isub hx hb dX5_plant_83 ?_
    obtain ⟨x8, ex8, hF⟩ := ltt_some hF
    refine lv_topi (fun zx8 ezx8 => ?_)
    obtain rfl : x8 = zx8 := ex8.trans ezx8.symm
    obtain ⟨b9, ho9, hc9, hk9, hF⟩ := dr_some hF
    refine W_st (st' := [.int x8, .int x7, .ref (ad b9)]) (by rw [va_some ho9]) ?_
    obtain ⟨hvc, hF⟩ := chk_some hF
    refine va_iast hx hb hK hP hD hS b9 1 (wld_i ct ad G y2.2.2.2 hc9 hk9) rfl hvc dX5_plant_84 (fun H locs hP hD hS => ?_)
    obtain ⟨M10, eM10, hF⟩ := ltt_some hF
    rw [set_i ct ad G y2.2.2.2 hc9 hk9, ← eM10] at hP hD
    refine lv_iload hx hb dX5_plant_85 (lv_at hl 1 rfl) ?_
    obtain rfl := Option.some.inj hF
    exact W.iret (v := y2.2.1) hx hb hr (fun t ht hW => ⟨⟨_, (), rfl, rfl, ⟨by rw [ht]; exact hP, va_K.moved hW.alike hK, hD⟩⟩, hS.F ht⟩) hS.2.2 dX5_plant_87
  clear hF
  refine itr_rule (fun (s3 : Int32 × Int32 × Int32 × DD) => ∀ (H : Heap) (locs : List Loc) (ls : Array Slot), va_P D classes (wld ct ad G s3.2.2.2) H → va_D A (wld ct ad G s3.2.2.2) → va_S A s.heap H locs → lv_has ls 10 [(8, .int s3.2.2.1), (7, .int s3.2.1), (6, .int s3.1), (0, .ref (ad a)), (1, .int p0), (2, .int p1), (3, .int p2), (4, .int p3), (5, .int p4)] → W p l e (headSpec wuX5_plant ({ frames := 0, cells := 0, slots := 0, locals := 0 })).room s m ([.ref (ad a), .int p0, .int p1, .int p2, .int p3, .int p4] : List Value).toArray below meth c H locs 0 0 (MQ below (va_Qi (fun (q : Int32) (_ : Unit) => q = y.2) (fun _ t => kE D ct ad G A y.1 t) A) ([.ref (ad a), .int p0, .int p1, .int p2, .int p3, .int p4] : List Value).toArray s 0 0 A) (F0 m 12 ls [])) ?_ _ _ hy2 _ _ _ hP hD hS (lv_sub hl [0, 1, 2, 3, 4, 5, 6, 7, 8] rfl)
  rintro s3 ⟨z11, hF, hwz11⟩ H locs ls hP hD hS hl
  try dsimp only at hF
  refine lv_iload hx hb dX5_plant_12 (lv_at hl 0 rfl) ?_
  refine lv_if_le (tgt := 68) hx hb dX5_plant_14 (by decide) (fun c12 => ?_) (fun c12 => ?_)
  · rw [if_pos c12] at hF
    obtain rfl := Option.some.inj hF
    subst hwz11
    exact K2 _ _ _ hP hD hS (lv_sub hl [0, 1, 2, 3, 4, 5, 6, 7, 8] rfl)
  · rw [if_neg c12] at hF
    refine lv_iconst (v := (2 : Int32)) hx hb dX5_plant_17 (by decide) ?_
    refine lv_iload hx hb dX5_plant_18 (lv_at hl 2 rfl) ?_
    refine lv_imul hx hb dX5_plant_20 ?_
    obtain ⟨x13, ex13, hF⟩ := ltt_some hF
    refine lv_topi (fun zx13 ezx13 => ?_)
    obtain rfl : x13 = zx13 := ex13.trans ezx13.symm
    refine lv_iload hx hb dX5_plant_21 (lv_at hl 7 rfl) ?_
    refine lv_iload hx hb dX5_plant_23 (lv_at hl 0 rfl) ?_
    refine lv_ishr hx hb dX5_plant_25 ?_
    obtain ⟨x14, ex14, hF⟩ := ltt_some hF
    refine lv_topi (fun zx14 ezx14 => ?_)
    obtain rfl : x14 = zx14 := ex14.trans ezx14.symm
    refine lv_iconst (v := (1 : Int32)) hx hb dX5_plant_26 (by decide) ?_
    refine lv_iand hx hb dX5_plant_27 ?_
    obtain ⟨x15, ex15, hF⟩ := ltt_some hF
    refine lv_topi (fun zx15 ezx15 => ?_)
    obtain rfl : x15 = zx15 := ex15.trans ezx15.symm
    refine lv_iadd hx hb dX5_plant_28 ?_
    obtain ⟨x16, ex16, hF⟩ := ltt_some hF
    refine lv_topi (fun zx16 ezx16 => ?_)
    obtain rfl : x16 = zx16 := ex16.trans ezx16.symm
    refine lv_istore (lv' := [(9, .int x16), (8, .int s3.2.2.1), (7, .int s3.2.1), (6, .int s3.1), (0, .ref (ad a)), (1, .int p0), (2, .int p1), (3, .int p2), (4, .int p3), (5, .int p4)]) hx hb dX5_plant_29 hl (by decide) rfl (fun ls hl => ?_)
    refine lv_aload_n hx hb dX5_plant_31 rfl (lv_at hl 4 rfl) ?_
    refine va_get (D := D) (ci := 5) (v := va_re ad (s3.2.2.2.2 a 13)) (C := RX5) (T := TX5) (N := 17) hx hb hts (mus hf_X5) hown hK hP a (wld_o ct ad G s3.2.2.2 hc hk (by decide)) rfl 13 (by decide) (hts (.fieldLink RX5 18 "VideoSuite$Reader" "tree" "[I") (mu mw_304)) (fun _ h9 => h9) rfl dX5_plant_32 ?_
    refine lv_iload hx hb dX5_plant_35 (lv_at hl 0 rfl) ?_
    obtain ⟨b17, ho17, hc17, hk17, hF⟩ := dr_some hF
    refine W_st (st' := [.int x16, .ref (ad b17)]) (by rw [va_some ho17]) ?_
    obtain ⟨hvc, hF⟩ := chk_some hF
    refine va_iald hx hb hK hP b17 1 (wld_i ct ad G s3.2.2.2 hc17 hk17) rfl hvc dX5_plant_37 ?_
    obtain ⟨x18, ex18, hF⟩ := ltt_some hF
    refine lv_topi (fun zx18 ezx18 => ?_)
    obtain rfl : x18 = zx18 := ex18.trans ezx18.symm
    obtain ⟨y19, hy19, hF⟩ := bnd_some hF
    have J19 : ∀ (H : Heap) (locs : List Loc) (ls : Array Slot), va_P D classes (wld ct ad G y19.2) H → va_D A (wld ct ad G y19.2) → va_S A s.heap H locs → lv_has ls 10 [(9, .int x16), (8, .int s3.2.2.1), (7, .int y19.1), (6, .int s3.1), (0, .ref (ad a)), (1, .int p0), (2, .int p1), (3, .int p2), (4, .int p3), (5, .int p4)] → W p l e (headSpec wuX5_plant ({ frames := 0, cells := 0, slots := 0, locals := 0 })).room s m ([.ref (ad a), .int p0, .int p1, .int p2, .int p3, .int p4] : List Value).toArray below meth c H locs 0 0 (MQ below (va_Qi (fun (q : Int32) (_ : Unit) => q = y.2) (fun _ t => kE D ct ad G A y.1 t) A) ([.ref (ad a), .int p0, .int p1, .int p2, .int p3, .int p4] : List Value).toArray s 0 0 A) (F0 m 53 ls []) := by
      intro H locs ls hP hD hS hl
      refine lv_aload_n hx hb dX5_plant_53 rfl (lv_at hl 4 rfl) ?_
      refine va_get (D := D) (ci := 5) (v := va_re ad (y19.2.2 a 13)) (C := RX5) (T := TX5) (N := 17) hx hb hts (mus hf_X5) hown hK hP a (wld_o ct ad G y19.2 hc hk (by decide)) rfl 13 (by decide) (hts (.fieldLink RX5 18 "VideoSuite$Reader" "tree" "[I") (mu mw_304)) (fun _ h9 => h9) rfl dX5_plant_54 ?_
      refine lv_iload hx hb dX5_plant_57 (lv_at hl 0 rfl) ?_
      obtain ⟨b20, ho20, hc20, hk20, hF⟩ := dr_some hF
      refine W_st (st' := [.int x16, .ref (ad b20)]) (by rw [va_some ho20]) ?_
      obtain ⟨hvc, hF⟩ := chk_some hF
      refine va_iald hx hb hK hP b20 1 (wld_i ct ad G y19.2 hc20 hk20) rfl hvc dX5_plant_59 ?_
      obtain ⟨x21, ex21, hF⟩ := ltt_some hF
      refine lv_topi (fun zx21 ezx21 => ?_)
      obtain rfl : x21 = zx21 := ex21.trans ezx21.symm
      refine lv_istore (lv' := [(6, .int x21), (9, .int x16), (8, .int s3.2.2.1), (7, .int y19.1), (0, .ref (ad a)), (1, .int p0), (2, .int p1), (3, .int p2), (4, .int p3), (5, .int p4)]) hx hb dX5_plant_60 hl (by decide) rfl (fun ls hl => ?_)
      obtain ⟨x22, ex22, hF⟩ := ltt_some hF
      refine lv_iinc (v := x22) (lv' := [(8, .int x22), (6, .int x21), (9, .int x16), (7, .int y19.1), (0, .ref (ad a)), (1, .int p0), (2, .int p1), (3, .int p2), (4, .int p3), (5, .int p4)]) hx hb dX5_plant_62 hl (k := 2) rfl (by rw [ex22]; rfl) (by decide) rfl (fun ls hl => ?_)
      refine lv_goto (tgt := 12) hx hb dX5_plant_65 (by decide) ?_
      obtain rfl := Option.some.inj hF
      exact hwz11 _ _ _ hP hD hS (lv_sub hl [0, 3, 1, 4, 5, 6, 7, 8, 9] rfl)
    clear hF
    have hF := hy19
    clear hy19
    refine lv_if_ne (tgt := 53) hx hb dX5_plant_38 (by decide) (fun c23 => ?_) (fun c23 => ?_)
    · rw [if_neg c23] at hF
      obtain rfl := Option.some.inj hF
      exact J19 _ _ _ hP hD hS (lv_sub hl [0, 1, 2, 3, 4, 5, 6, 7, 8, 9] rfl)
    · rw [if_pos c23] at hF
      refine lv_aload_n hx hb dX5_plant_41 rfl (lv_at hl 4 rfl) ?_
      refine va_get (D := D) (ci := 5) (v := va_re ad (s3.2.2.2.2 a 13)) (C := RX5) (T := TX5) (N := 17) hx hb hts (mus hf_X5) hown hK hP a (wld_o ct ad G s3.2.2.2 hc hk (by decide)) rfl 13 (by decide) (hts (.fieldLink RX5 18 "VideoSuite$Reader" "tree" "[I") (mu mw_304)) (fun _ h9 => h9) rfl dX5_plant_42 ?_
      refine lv_iload hx hb dX5_plant_45 (lv_at hl 0 rfl) ?_
      refine lv_iload hx hb dX5_plant_47 (lv_at hl 2 rfl) ?_
      obtain ⟨x24, ex24, hF⟩ := ltt_some hF
      refine lv_iinc (v := x24) (lv' := [(7, .int x24), (9, .int x16), (8, .int s3.2.2.1), (6, .int s3.1), (0, .ref (ad a)), (1, .int p0), (2, .int p1), (3, .int p2), (4, .int p3), (5, .int p4)]) hx hb dX5_plant_49 hl (k := 2) rfl (by rw [ex24]; rfl) (by decide) rfl (fun ls hl => ?_)
      refine W_st (st' := [.int s3.2.1, .int x16, .ref (ad b17)]) (by rw [va_some ho17]) ?_
      obtain ⟨hvc, hF⟩ := chk_some hF
      refine va_iast hx hb hK hP hD hS b17 1 (wld_i ct ad G s3.2.2.2 hc17 hk17) rfl hvc dX5_plant_52 (fun H locs hP hD hS => ?_)
      obtain ⟨M25, eM25, hF⟩ := ltt_some hF
      rw [set_i ct ad G s3.2.2.2 hc17 hk17, ← eM25] at hP hD
      obtain rfl := Option.some.inj hF
      exact J19 _ _ _ hP hD hS (lv_sub hl [1, 2, 0, 3, 4, 5, 6, 7, 8, 9] rfl)
theorem dX5_record_0 : decode cX5_record 0 = .ok (.aload_n 0, 1) := by decide +kernel
theorem dX5_record_1 : decode cX5_record 1 = .ok (.aload_n 0, 1) := by decide +kernel
theorem dX5_record_2 : decode cX5_record 2 = .ok (.getfield 60, 3) := by decide +kernel
theorem dX5_record_5 : decode cX5_record 5 = .ok (.putfield 63, 3) := by decide +kernel
theorem dX5_record_8 : decode cX5_record 8 = .ok (.aload_n 0, 1) := by decide +kernel
theorem dX5_record_9 : decode cX5_record 9 = .ok (.getfield 70, 3) := by decide +kernel
theorem dX5_record_12 : decode cX5_record 12 = .ok (.ifCond .eq 4, 3) := by decide +kernel
theorem dX5_record_15 : decode cX5_record 15 = .ok (.return_, 1) := by decide +kernel
theorem dX5_record_16 : decode cX5_record 16 = .ok (.aload_n 0, 1) := by decide +kernel
theorem dX5_record_17 : decode cX5_record 17 = .ok (.getfield 73, 3) := by decide +kernel
theorem dX5_record_20 : decode cX5_record 20 = .ok (.sipush 4000, 3) := by decide +kernel
theorem dX5_record_23 : decode cX5_record 23 = .ok (.if_icmp .ge 54, 3) := by decide +kernel
theorem dX5_record_26 : decode cX5_record 26 = .ok (.aload_n 0, 1) := by decide +kernel
theorem dX5_record_27 : decode cX5_record 27 = .ok (.getfield 15, 3) := by decide +kernel
theorem dX5_record_30 : decode cX5_record 30 = .ok (.iconst 3, 1) := by decide +kernel
theorem dX5_record_31 : decode cX5_record 31 = .ok (.aload_n 0, 1) := by decide +kernel
theorem dX5_record_32 : decode cX5_record 32 = .ok (.getfield 73, 3) := by decide +kernel
theorem dX5_record_35 : decode cX5_record 35 = .ok (.imul, 1) := by decide +kernel
theorem dX5_record_36 : decode cX5_record 36 = .ok (.aload_n 0, 1) := by decide +kernel
theorem dX5_record_37 : decode cX5_record 37 = .ok (.getfield 60, 3) := by decide +kernel
theorem dX5_record_40 : decode cX5_record 40 = .ok (.iastore, 1) := by decide +kernel
theorem dX5_record_41 : decode cX5_record 41 = .ok (.aload_n 0, 1) := by decide +kernel
theorem dX5_record_42 : decode cX5_record 42 = .ok (.getfield 15, 3) := by decide +kernel
theorem dX5_record_45 : decode cX5_record 45 = .ok (.iconst 3, 1) := by decide +kernel
theorem dX5_record_46 : decode cX5_record 46 = .ok (.aload_n 0, 1) := by decide +kernel
theorem dX5_record_47 : decode cX5_record 47 = .ok (.getfield 73, 3) := by decide +kernel
theorem dX5_record_50 : decode cX5_record 50 = .ok (.imul, 1) := by decide +kernel
theorem dX5_record_51 : decode cX5_record 51 = .ok (.iconst 1, 1) := by decide +kernel
theorem dX5_record_52 : decode cX5_record 52 = .ok (.iadd, 1) := by decide +kernel
theorem dX5_record_53 : decode cX5_record 53 = .ok (.aload_n 0, 1) := by decide +kernel
theorem dX5_record_54 : decode cX5_record 54 = .ok (.getfield 57, 3) := by decide +kernel
theorem dX5_record_57 : decode cX5_record 57 = .ok (.aload_n 0, 1) := by decide +kernel
theorem dX5_record_58 : decode cX5_record 58 = .ok (.getfield 60, 3) := by decide +kernel
theorem dX5_record_61 : decode cX5_record 61 = .ok (.isub, 1) := by decide +kernel
theorem dX5_record_62 : decode cX5_record 62 = .ok (.iastore, 1) := by decide +kernel
theorem dX5_record_63 : decode cX5_record 63 = .ok (.aload_n 0, 1) := by decide +kernel
theorem dX5_record_64 : decode cX5_record 64 = .ok (.getfield 15, 3) := by decide +kernel
theorem dX5_record_67 : decode cX5_record 67 = .ok (.iconst 3, 1) := by decide +kernel
theorem dX5_record_68 : decode cX5_record 68 = .ok (.aload_n 0, 1) := by decide +kernel
theorem dX5_record_69 : decode cX5_record 69 = .ok (.getfield 73, 3) := by decide +kernel
theorem dX5_record_72 : decode cX5_record 72 = .ok (.imul, 1) := by decide +kernel
theorem dX5_record_73 : decode cX5_record 73 = .ok (.iconst 2, 1) := by decide +kernel
theorem dX5_record_74 : decode cX5_record 74 = .ok (.iadd, 1) := by decide +kernel
theorem dX5_record_75 : decode cX5_record 75 = .ok (.iload_n 1, 1) := by decide +kernel
theorem dX5_record_76 : decode cX5_record 76 = .ok (.iastore, 1) := by decide +kernel
theorem dX5_record_77 : decode cX5_record 77 = .ok (.aload_n 0, 1) := by decide +kernel
theorem dX5_record_78 : decode cX5_record 78 = .ok (.dup, 1) := by decide +kernel
theorem dX5_record_79 : decode cX5_record 79 = .ok (.getfield 73, 3) := by decide +kernel
theorem dX5_record_82 : decode cX5_record 82 = .ok (.iconst 1, 1) := by decide +kernel
theorem dX5_record_83 : decode cX5_record 83 = .ok (.iadd, 1) := by decide +kernel
theorem dX5_record_84 : decode cX5_record 84 = .ok (.putfield 73, 3) := by decide +kernel
theorem dX5_record_87 : decode cX5_record 87 = .ok (.return_, 1) := by decide +kernel
def FX5_record (G : GG) (M : DD) (a : Nat) (p0 : Int32) : Option (DD) :=
  ltt (M.1 a 4) fun x1 =>
  ltt (uI M a 5 x1) fun M2 =>
  ltt (M2.1 a 7) fun x3 =>
  if x3 = ((0 : Int32)) then (ltt (M2.1 a 12) fun x5 =>
  bnd (if ((4000 : Int32)) ≤ x5 then (some (M2)) else
  (ltt (M2.1 a 12) fun x11 =>
  ltt ((((3 : Int32)) * x11)) fun x12 =>
  ltt (M2.1 a 4) fun x13 =>
  dr G 13 ((M2.2 a 11)) fun b14 =>
  chk (¬ (x12 < 0 ∨ G.2.2 b14 ≤ x12.toNatClampNeg)) <|
  ltt (uI M2 b14 x12.toNatClampNeg x13) fun M15 =>
  ltt (M15.1 a 12) fun x16 =>
  ltt ((((3 : Int32)) * x16)) fun x17 =>
  ltt ((x17 + ((1 : Int32)))) fun x18 =>
  ltt (M15.1 a 2) fun x19 =>
  ltt (M15.1 a 4) fun x20 =>
  ltt ((x19 - x20)) fun x21 =>
  dr G 13 ((M15.2 a 11)) fun b22 =>
  chk (¬ (x18 < 0 ∨ G.2.2 b22 ≤ x18.toNatClampNeg)) <|
  ltt (uI M15 b22 x18.toNatClampNeg x21) fun M23 =>
  ltt (M23.1 a 12) fun x24 =>
  ltt ((((3 : Int32)) * x24)) fun x25 =>
  ltt ((x25 + ((2 : Int32)))) fun x26 =>
  dr G 13 ((M23.2 a 11)) fun b27 =>
  chk (¬ (x26 < 0 ∨ G.2.2 b27 ≤ x26.toNatClampNeg)) <|
  ltt (uI M23 b27 x26.toNatClampNeg p0) fun M28 =>
  some (M28))) fun (y6 : DD) =>
  ltt (y6.1 a 12) fun x7 =>
  ltt ((x7 + ((1 : Int32)))) fun x8 =>
  ltt (uI y6 a 12 x8) fun M9 =>
  some M9) else
  (some M2)
set_option maxHeartbeats 4000000 in
set_option maxRecDepth 100000 in
theorem kX5_record (l : Launch) (D : va_G) (ct : CT) (ad : Nat → Nat) (Z : Nat → Nat) (G : GG) (M : DD) (sz : Nat) (a : Nat) (p0 : Int32) (y : DD) (hc : a < G.1) (hk : G.2.1 a = 5) (hF : FX5_record G M a p0 = some y) : Met l yX5_record wuX5_record ({ frames := 0, cells := 0, slots := 0, locals := 0 }) (va_Pc [.ref (ad a), .int p0] (kB D ct ad Z G M sz)) (va_Qv (fun (_ : Unit) => True) (fun _ t => kE D ct ad G (wA ad G sz) y t) (wA ad G sz)) 0 0 (wA ad G sz) := by
  refine Met.ofW (cc := cX5_record) (maxL := 2) (ret := none) (by decide) rfl ?_
  intro p e s m args below meth c s₁ B hml hv
  obtain ⟨rfl, hsz, hP, hK, hD0, hZ, hN⟩ := hv
  have hx := B.exec
  have hb := B.bytes
  have hr := B.returns
  have hts := atoms_spec (ws := wuX5_record) B.pre
  have hown : s.vm.findClass RX5 = some m.cls := findClass_of_methodNamed B.named
  have hlocks := B.notSynchronized
  subst hsz
  have hD := wD_self (sz := s.heap.size) hD0
  have hA9 : ∀ q, s.heap.size ≤ q → wA ad G s.heap.size q := fun q h => Or.inr h
  generalize hAe : wA ad G s.heap.size = A at hD hA9 hZ ⊢
  have hS : va_S A s.heap s.heap [] := va_S.rf
  have hl := lv_entry ([.ref (ad a), .int p0]) (n := 2) (Nat.le_of_ble_eq_true rfl)
  rw [lg_entry_eq]
  generalize (lg_sl ([.ref (ad a), .int p0]) ++ List.replicate (2 - (lg_sl ([.ref (ad a), .int p0])).length) Slot.unset).toArray = ls at hl ⊢
  have hl : lv_has ls 2 [(0, .ref (ad a)), (1, .int p0)] := hl
  unfold FX5_record at hF
  refine lv_aload_n hx hb dX5_record_0 rfl (lv_at hl 0 rfl) ?_
  refine lv_aload_n hx hb dX5_record_1 rfl (lv_at hl 0 rfl) ?_
  refine va_get (D := D) (ci := 5) (v := .int (M.1 a 4)) (C := RX5) (T := TX5) (N := 17) hx hb hts (mus hf_X5) hown hK hP a (wld_o ct ad G M hc hk (by decide)) rfl 4 (by decide) (hts (.fieldLink RX5 60 "VideoSuite$Reader" "begin" "I") (mu mw_292)) (fun _ h9 => h9) rfl dX5_record_2 ?_
  obtain ⟨x1, ex1, hF⟩ := ltt_some hF
  refine lv_topi (fun zx1 ezx1 => ?_)
  obtain rfl : x1 = zx1 := ex1.trans ezx1.symm
  refine va_put (D := D) (ci := 5) (v := .int x1) (ty := .int) (C := RX5) (T := TX5) (N := 17) hx hb hts (mus hf_X5) tyX5 tyX5_ok nmX5 hown hK hP hD hS a (wld_o ct ad G M hc hk (by decide)) rfl 5 (by decide) (hts (.fieldLink RX5 63 "VideoSuite$Reader" "lastBegin" "I") (mu mw_294)) (fun _ h9 => h9) rfl (by decide +kernel) rfl rfl (Nat.le_of_ble_eq_true rfl) dX5_record_5 (fun H locs hP hD hS => ?_)
  obtain ⟨M2, eM2, hF⟩ := ltt_some hF
  rw [set_oI ct ad G M hc hk (by decide) (by rfl), ← eM2] at hP hD
  refine lv_aload_n hx hb dX5_record_8 rfl (lv_at hl 0 rfl) ?_
  refine va_get (D := D) (ci := 5) (v := .int (M2.1 a 7)) (C := RX5) (T := TX5) (N := 17) hx hb hts (mus hf_X5) hown hK hP a (wld_o ct ad G M2 hc hk (by decide)) rfl 7 (by decide) (hts (.fieldLink RX5 70 "VideoSuite$Reader" "inData" "Z") (mu mw_296)) (fun _ h9 => h9) rfl dX5_record_9 ?_
  obtain ⟨x3, ex3, hF⟩ := ltt_some hF
  refine lv_topi (fun zx3 ezx3 => ?_)
  obtain rfl : x3 = zx3 := ex3.trans ezx3.symm
  refine lv_if_eq (tgt := 16) hx hb dX5_record_12 (by decide) (fun c4 => ?_) (fun c4 => ?_)
  · rw [if_pos c4] at hF
    refine lv_aload_n hx hb dX5_record_16 rfl (lv_at hl 0 rfl) ?_
    refine va_get (D := D) (ci := 5) (v := .int (M2.1 a 12)) (C := RX5) (T := TX5) (N := 17) hx hb hts (mus hf_X5) hown hK hP a (wld_o ct ad G M2 hc hk (by decide)) rfl 12 (by decide) (hts (.fieldLink RX5 73 "VideoSuite$Reader" "elementCount" "I") (mu mw_302)) (fun _ h9 => h9) rfl dX5_record_17 ?_
    obtain ⟨x5, ex5, hF⟩ := ltt_some hF
    refine lv_topi (fun zx5 ezx5 => ?_)
    obtain rfl : x5 = zx5 := ex5.trans ezx5.symm
    refine lv_sipush (v := (4000 : Int32)) hx hb dX5_record_20 (by decide) ?_
    obtain ⟨y6, hy6, hF⟩ := bnd_some hF
    have J6 : ∀ (H : Heap) (locs : List Loc) (ls : Array Slot), va_P D classes (wld ct ad G y6) H → va_D A (wld ct ad G y6) → va_S A s.heap H locs → lv_has ls 2 [(0, .ref (ad a)), (1, .int p0)] → W p l e (headSpec wuX5_record ({ frames := 0, cells := 0, slots := 0, locals := 0 })).room s m ([.ref (ad a), .int p0] : List Value).toArray below meth c H locs 0 0 (MQ below (va_Qv (fun (_ : Unit) => True) (fun _ t => kE D ct ad G A y t) A) ([.ref (ad a), .int p0] : List Value).toArray s 0 0 A) (F0 m 77 ls []) := by
      intro H locs ls hP hD hS hl
      refine lv_aload_n hx hb dX5_record_77 rfl (lv_at hl 0 rfl) ?_
      refine lv_dup hx hb dX5_record_78 rfl ?_
      refine va_get (D := D) (ci := 5) (v := .int (y6.1 a 12)) (C := RX5) (T := TX5) (N := 17) hx hb hts (mus hf_X5) hown hK hP a (wld_o ct ad G y6 hc hk (by decide)) rfl 12 (by decide) (hts (.fieldLink RX5 73 "VideoSuite$Reader" "elementCount" "I") (mu mw_302)) (fun _ h9 => h9) rfl dX5_record_79 ?_
      obtain ⟨x7, ex7, hF⟩ := ltt_some hF
      refine lv_topi (fun zx7 ezx7 => ?_)
      obtain rfl : x7 = zx7 := ex7.trans ezx7.symm
      refine lv_iconst (v := (1 : Int32)) hx hb dX5_record_82 (by decide) ?_
      refine lv_iadd hx hb dX5_record_83 ?_
      obtain ⟨x8, ex8, hF⟩ := ltt_some hF
      refine lv_topi (fun zx8 ezx8 => ?_)
      obtain rfl : x8 = zx8 := ex8.trans ezx8.symm
      refine va_put (D := D) (ci := 5) (v := .int x8) (ty := .int) (C := RX5) (T := TX5) (N := 17) hx hb hts (mus hf_X5) tyX5 tyX5_ok nmX5 hown hK hP hD hS a (wld_o ct ad G y6 hc hk (by decide)) rfl 12 (by decide) (hts (.fieldLink RX5 73 "VideoSuite$Reader" "elementCount" "I") (mu mw_302)) (fun _ h9 => h9) rfl (by decide +kernel) rfl rfl (Nat.le_of_ble_eq_true rfl) dX5_record_84 (fun H locs hP hD hS => ?_)
      obtain ⟨M9, eM9, hF⟩ := ltt_some hF
      rw [set_oI ct ad G y6 hc hk (by decide) (by rfl), ← eM9] at hP hD
      obtain rfl := Option.some.inj hF
      exact W.vret hx hb hr (fun t ht hW => ⟨⟨(), rfl, trivial, ⟨by rw [ht]; exact hP, va_K.moved hW.alike hK, hD⟩⟩, hS.F ht⟩) hS.2.2 dX5_record_87
    clear hF
    have hF := hy6
    clear hy6
    refine lv_icmp_ge (tgt := 77) hx hb dX5_record_23 (by decide) (fun c10 => ?_) (fun c10 => ?_)
    · rw [if_pos c10] at hF
      obtain rfl := Option.some.inj hF
      exact J6 _ _ _ hP hD hS (lv_sub hl [0, 1] rfl)
    · rw [if_neg c10] at hF
      refine lv_aload_n hx hb dX5_record_26 rfl (lv_at hl 0 rfl) ?_
      refine va_get (D := D) (ci := 5) (v := va_re ad (M2.2 a 11)) (C := RX5) (T := TX5) (N := 17) hx hb hts (mus hf_X5) hown hK hP a (wld_o ct ad G M2 hc hk (by decide)) rfl 11 (by decide) (hts (.fieldLink RX5 15 "VideoSuite$Reader" "element" "[I") (mu mw_300)) (fun _ h9 => h9) rfl dX5_record_27 ?_
      refine lv_iconst (v := (3 : Int32)) hx hb dX5_record_30 (by decide) ?_
      refine lv_aload_n hx hb dX5_record_31 rfl (lv_at hl 0 rfl) ?_
      refine va_get (D := D) (ci := 5) (v := .int (M2.1 a 12)) (C := RX5) (T := TX5) (N := 17) hx hb hts (mus hf_X5) hown hK hP a (wld_o ct ad G M2 hc hk (by decide)) rfl 12 (by decide) (hts (.fieldLink RX5 73 "VideoSuite$Reader" "elementCount" "I") (mu mw_302)) (fun _ h9 => h9) rfl dX5_record_32 ?_
      obtain ⟨x11, ex11, hF⟩ := ltt_some hF
      refine lv_topi (fun zx11 ezx11 => ?_)
      obtain rfl : x11 = zx11 := ex11.trans ezx11.symm
      refine lv_imul hx hb dX5_record_35 ?_
      obtain ⟨x12, ex12, hF⟩ := ltt_some hF
      refine lv_topi (fun zx12 ezx12 => ?_)
      obtain rfl : x12 = zx12 := ex12.trans ezx12.symm
      refine lv_aload_n hx hb dX5_record_36 rfl (lv_at hl 0 rfl) ?_
      refine va_get (D := D) (ci := 5) (v := .int (M2.1 a 4)) (C := RX5) (T := TX5) (N := 17) hx hb hts (mus hf_X5) hown hK hP a (wld_o ct ad G M2 hc hk (by decide)) rfl 4 (by decide) (hts (.fieldLink RX5 60 "VideoSuite$Reader" "begin" "I") (mu mw_292)) (fun _ h9 => h9) rfl dX5_record_37 ?_
      obtain ⟨x13, ex13, hF⟩ := ltt_some hF
      refine lv_topi (fun zx13 ezx13 => ?_)
      obtain rfl : x13 = zx13 := ex13.trans ezx13.symm
      obtain ⟨b14, ho14, hc14, hk14, hF⟩ := dr_some hF
      refine W_st (st' := [.int x13, .int x12, .ref (ad b14)]) (by rw [va_some ho14]) ?_
      obtain ⟨hvc, hF⟩ := chk_some hF
      refine va_iast hx hb hK hP hD hS b14 1 (wld_i ct ad G M2 hc14 hk14) rfl hvc dX5_record_40 (fun H locs hP hD hS => ?_)
      obtain ⟨M15, eM15, hF⟩ := ltt_some hF
      rw [set_i ct ad G M2 hc14 hk14, ← eM15] at hP hD
      refine lv_aload_n hx hb dX5_record_41 rfl (lv_at hl 0 rfl) ?_
      refine va_get (D := D) (ci := 5) (v := va_re ad (M15.2 a 11)) (C := RX5) (T := TX5) (N := 17) hx hb hts (mus hf_X5) hown hK hP a (wld_o ct ad G M15 hc hk (by decide)) rfl 11 (by decide) (hts (.fieldLink RX5 15 "VideoSuite$Reader" "element" "[I") (mu mw_300)) (fun _ h9 => h9) rfl dX5_record_42 ?_
      refine lv_iconst (v := (3 : Int32)) hx hb dX5_record_45 (by decide) ?_
      refine lv_aload_n hx hb dX5_record_46 rfl (lv_at hl 0 rfl) ?_
      refine va_get (D := D) (ci := 5) (v := .int (M15.1 a 12)) (C := RX5) (T := TX5) (N := 17) hx hb hts (mus hf_X5) hown hK hP a (wld_o ct ad G M15 hc hk (by decide)) rfl 12 (by decide) (hts (.fieldLink RX5 73 "VideoSuite$Reader" "elementCount" "I") (mu mw_302)) (fun _ h9 => h9) rfl dX5_record_47 ?_
      obtain ⟨x16, ex16, hF⟩ := ltt_some hF
      refine lv_topi (fun zx16 ezx16 => ?_)
      obtain rfl : x16 = zx16 := ex16.trans ezx16.symm
      refine lv_imul hx hb dX5_record_50 ?_
      obtain ⟨x17, ex17, hF⟩ := ltt_some hF
      refine lv_topi (fun zx17 ezx17 => ?_)
      obtain rfl : x17 = zx17 := ex17.trans ezx17.symm
      refine lv_iconst (v := (1 : Int32)) hx hb dX5_record_51 (by decide) ?_
      refine lv_iadd hx hb dX5_record_52 ?_
      obtain ⟨x18, ex18, hF⟩ := ltt_some hF
      refine lv_topi (fun zx18 ezx18 => ?_)
      obtain rfl : x18 = zx18 := ex18.trans ezx18.symm
      refine lv_aload_n hx hb dX5_record_53 rfl (lv_at hl 0 rfl) ?_
      refine va_get (D := D) (ci := 5) (v := .int (M15.1 a 2)) (C := RX5) (T := TX5) (N := 17) hx hb hts (mus hf_X5) hown hK hP a (wld_o ct ad G M15 hc hk (by decide)) rfl 2 (by decide) (hts (.fieldLink RX5 57 "VideoSuite$Reader" "place" "I") (mu mw_289)) (fun _ h9 => h9) rfl dX5_record_54 ?_
      obtain ⟨x19, ex19, hF⟩ := ltt_some hF
      refine lv_topi (fun zx19 ezx19 => ?_)
      obtain rfl : x19 = zx19 := ex19.trans ezx19.symm
      refine lv_aload_n hx hb dX5_record_57 rfl (lv_at hl 0 rfl) ?_
      refine va_get (D := D) (ci := 5) (v := .int (M15.1 a 4)) (C := RX5) (T := TX5) (N := 17) hx hb hts (mus hf_X5) hown hK hP a (wld_o ct ad G M15 hc hk (by decide)) rfl 4 (by decide) (hts (.fieldLink RX5 60 "VideoSuite$Reader" "begin" "I") (mu mw_292)) (fun _ h9 => h9) rfl dX5_record_58 ?_
      obtain ⟨x20, ex20, hF⟩ := ltt_some hF
      refine lv_topi (fun zx20 ezx20 => ?_)
      obtain rfl : x20 = zx20 := ex20.trans ezx20.symm
      refine lv_isub hx hb dX5_record_61 ?_
      obtain ⟨x21, ex21, hF⟩ := ltt_some hF
      refine lv_topi (fun zx21 ezx21 => ?_)
      obtain rfl : x21 = zx21 := ex21.trans ezx21.symm
      obtain ⟨b22, ho22, hc22, hk22, hF⟩ := dr_some hF
      refine W_st (st' := [.int x21, .int x18, .ref (ad b22)]) (by rw [va_some ho22]) ?_
      obtain ⟨hvc, hF⟩ := chk_some hF
      refine va_iast hx hb hK hP hD hS b22 1 (wld_i ct ad G M15 hc22 hk22) rfl hvc dX5_record_62 (fun H locs hP hD hS => ?_)
      obtain ⟨M23, eM23, hF⟩ := ltt_some hF
      rw [set_i ct ad G M15 hc22 hk22, ← eM23] at hP hD
      refine lv_aload_n hx hb dX5_record_63 rfl (lv_at hl 0 rfl) ?_
      refine va_get (D := D) (ci := 5) (v := va_re ad (M23.2 a 11)) (C := RX5) (T := TX5) (N := 17) hx hb hts (mus hf_X5) hown hK hP a (wld_o ct ad G M23 hc hk (by decide)) rfl 11 (by decide) (hts (.fieldLink RX5 15 "VideoSuite$Reader" "element" "[I") (mu mw_300)) (fun _ h9 => h9) rfl dX5_record_64 ?_
      refine lv_iconst (v := (3 : Int32)) hx hb dX5_record_67 (by decide) ?_
      refine lv_aload_n hx hb dX5_record_68 rfl (lv_at hl 0 rfl) ?_
      refine va_get (D := D) (ci := 5) (v := .int (M23.1 a 12)) (C := RX5) (T := TX5) (N := 17) hx hb hts (mus hf_X5) hown hK hP a (wld_o ct ad G M23 hc hk (by decide)) rfl 12 (by decide) (hts (.fieldLink RX5 73 "VideoSuite$Reader" "elementCount" "I") (mu mw_302)) (fun _ h9 => h9) rfl dX5_record_69 ?_
      obtain ⟨x24, ex24, hF⟩ := ltt_some hF
      refine lv_topi (fun zx24 ezx24 => ?_)
      obtain rfl : x24 = zx24 := ex24.trans ezx24.symm
      refine lv_imul hx hb dX5_record_72 ?_
      obtain ⟨x25, ex25, hF⟩ := ltt_some hF
      refine lv_topi (fun zx25 ezx25 => ?_)
      obtain rfl : x25 = zx25 := ex25.trans ezx25.symm
      refine lv_iconst (v := (2 : Int32)) hx hb dX5_record_73 (by decide) ?_
      refine lv_iadd hx hb dX5_record_74 ?_
      obtain ⟨x26, ex26, hF⟩ := ltt_some hF
      refine lv_topi (fun zx26 ezx26 => ?_)
      obtain rfl : x26 = zx26 := ex26.trans ezx26.symm
      refine lv_iload_n hx hb dX5_record_75 rfl (lv_at hl 1 rfl) ?_
      obtain ⟨b27, ho27, hc27, hk27, hF⟩ := dr_some hF
      refine W_st (st' := [.int p0, .int x26, .ref (ad b27)]) (by rw [va_some ho27]) ?_
      obtain ⟨hvc, hF⟩ := chk_some hF
      refine va_iast hx hb hK hP hD hS b27 1 (wld_i ct ad G M23 hc27 hk27) rfl hvc dX5_record_76 (fun H locs hP hD hS => ?_)
      obtain ⟨M28, eM28, hF⟩ := ltt_some hF
      rw [set_i ct ad G M23 hc27 hk27, ← eM28] at hP hD
      obtain rfl := Option.some.inj hF
      exact J6 _ _ _ hP hD hS (lv_sub hl [0, 1] rfl)
  · rw [if_neg c4] at hF
    obtain rfl := Option.some.inj hF
    exact W.vret hx hb hr (fun t ht hW => ⟨⟨(), rfl, trivial, ⟨by rw [ht]; exact hP, va_K.moved hW.alike hK, hD⟩⟩, hS.F ht⟩) hS.2.2 dX5_record_15
theorem dX5_valueOf_0 : decode cX5_valueOf 0 = .ok (.getstatic 24, 3) := by decide +kernel
theorem dX5_valueOf_3 : decode cX5_valueOf 3 = .ok (.iload_n 0, 1) := by decide +kernel
theorem dX5_valueOf_4 : decode cX5_valueOf 4 = .ok (.iaload, 1) := by decide +kernel
theorem dX5_valueOf_5 : decode cX5_valueOf 5 = .ok (.iload_n 1, 1) := by decide +kernel
theorem dX5_valueOf_6 : decode cX5_valueOf 6 = .ok (.iadd, 1) := by decide +kernel
theorem dX5_valueOf_7 : decode cX5_valueOf 7 = .ok (.istore_n 2, 1) := by decide +kernel
theorem dX5_valueOf_8 : decode cX5_valueOf 8 = .ok (.iload_n 1, 1) := by decide +kernel
theorem dX5_valueOf_9 : decode cX5_valueOf 9 = .ok (.ifCond .lt 14, 3) := by decide +kernel
theorem dX5_valueOf_12 : decode cX5_valueOf 12 = .ok (.iload_n 2, 1) := by decide +kernel
theorem dX5_valueOf_13 : decode cX5_valueOf 13 = .ok (.getstatic 24, 3) := by decide +kernel
theorem dX5_valueOf_16 : decode cX5_valueOf 16 = .ok (.iload_n 0, 1) := by decide +kernel
theorem dX5_valueOf_17 : decode cX5_valueOf 17 = .ok (.iconst 1, 1) := by decide +kernel
theorem dX5_valueOf_18 : decode cX5_valueOf 18 = .ok (.iadd, 1) := by decide +kernel
theorem dX5_valueOf_19 : decode cX5_valueOf 19 = .ok (.iaload, 1) := by decide +kernel
theorem dX5_valueOf_20 : decode cX5_valueOf 20 = .ok (.if_icmp .lt 7, 3) := by decide +kernel
theorem dX5_valueOf_23 : decode cX5_valueOf 23 = .ok (.iconst 0, 1) := by decide +kernel
theorem dX5_valueOf_24 : decode cX5_valueOf 24 = .ok (.goto 12, 3) := by decide +kernel
theorem dX5_valueOf_27 : decode cX5_valueOf 27 = .ok (.getstatic 27, 3) := by decide +kernel
theorem dX5_valueOf_30 : decode cX5_valueOf 30 = .ok (.iconst 2, 1) := by decide +kernel
theorem dX5_valueOf_31 : decode cX5_valueOf 31 = .ok (.iload_n 2, 1) := by decide +kernel
theorem dX5_valueOf_32 : decode cX5_valueOf 32 = .ok (.imul, 1) := by decide +kernel
theorem dX5_valueOf_33 : decode cX5_valueOf 33 = .ok (.iconst 1, 1) := by decide +kernel
theorem dX5_valueOf_34 : decode cX5_valueOf 34 = .ok (.iadd, 1) := by decide +kernel
theorem dX5_valueOf_35 : decode cX5_valueOf 35 = .ok (.iaload, 1) := by decide +kernel
theorem dX5_valueOf_36 : decode cX5_valueOf 36 = .ok (.ireturn, 1) := by decide +kernel
def FX5_valueOf (G : GG) (M : DD) (p0 : Int32) (p1 : Int32) : Option (DD × Int32) :=
  chk (¬ (p0 < 0 ∨ 30 ≤ p0.toNatClampNeg)) <|
  ltt ((sT 10).getD p0.toNatClampNeg 0) fun x1 =>
  ltt ((x1 + p1)) fun x2 =>
  bnd (if p1 < ((0 : Int32)) then (some ((0 : Int32))) else
  (ltt ((p0 + ((1 : Int32)))) fun x5 =>
  chk (¬ (x5 < 0 ∨ 30 ≤ x5.toNatClampNeg)) <|
  ltt ((sT 10).getD x5.toNatClampNeg 0) fun x6 =>
  bnd (if x2 < x6 then (ltt ((((2 : Int32)) * x2)) fun x9 =>
  ltt ((x9 + ((1 : Int32)))) fun x10 =>
  chk (¬ (x10 < 0 ∨ 772 ≤ x10.toNatClampNeg)) <|
  ltt ((sT 6).getD x10.toNatClampNeg 0) fun x11 =>
  some (x11)) else
  (some ((0 : Int32)))) fun (y7 : Int32) =>
  some (y7))) fun (y3 : Int32) =>
  some (M, y3)
set_option maxHeartbeats 4000000 in
set_option maxRecDepth 100000 in
theorem kX5_valueOf (l : Launch) (D : va_G) (ct : CT) (ad : Nat → Nat) (Z : Nat → Nat) (G : GG) (M : DD) (sz : Nat) (p0 : Int32) (p1 : Int32) (y : DD × Int32) (hF : FX5_valueOf G M p0 p1 = some y) : Met l yX5_valueOf wuX5_valueOf ({ frames := 0, cells := 0, slots := 0, locals := 0 }) (va_Pc [.int p0, .int p1] (kB D ct ad Z G M sz)) (va_Qi (fun (q : Int32) (_ : Unit) => q = y.2) (fun _ t => kE D ct ad G (wA ad G sz) y.1 t) (wA ad G sz)) 0 0 (wA ad G sz) := by
  refine Met.ofW (cc := cX5_valueOf) (maxL := 3) (ret := (some .int)) (by decide) rfl ?_
  intro p e s m args below meth c s₁ B hml hv
  obtain ⟨rfl, hsz, hP, hK, hD0, hZ, hN⟩ := hv
  have hx := B.exec
  have hb := B.bytes
  have hr := B.returns
  have hts := atoms_spec (ws := wuX5_valueOf) B.pre
  have hown : s.vm.findClass RX5 = some m.cls := findClass_of_methodNamed B.named
  have hlocks := B.notSynchronized
  subst hsz
  have hD := wD_self (sz := s.heap.size) hD0
  have hA9 : ∀ q, s.heap.size ≤ q → wA ad G s.heap.size q := fun q h => Or.inr h
  generalize hAe : wA ad G s.heap.size = A at hD hA9 hZ ⊢
  have hS : va_S A s.heap s.heap [] := va_S.rf
  have hl := lv_entry ([.int p0, .int p1]) (n := 3) (Nat.le_of_ble_eq_true rfl)
  rw [lg_entry_eq]
  generalize (lg_sl ([.int p0, .int p1]) ++ List.replicate (3 - (lg_sl ([.int p0, .int p1])).length) Slot.unset).toArray = ls at hl ⊢
  have hl : lv_has ls 3 [(0, .int p0), (1, .int p1)] := hl
  unfold FX5_valueOf at hF
  refine va_gets hx hb (hZ.1 10 (by decide)).1 hS hown (hts (.fieldLink RX5 24 "VideoSuite$Reader" "TABLE_AT" "[I") (mu mw_279)) (fun _ h => h) dX5_valueOf_0 ?_
  refine lv_iload_n hx hb dX5_valueOf_3 rfl (lv_at hl 0 rfl) ?_
  obtain ⟨hvc, hF⟩ := chk_some hF
  refine va_ti (v := .int ((sT 10).getD p0.toNatClampNeg 0)) hx hb (hZ.1 10 (by decide)).2 hS hvc rfl dX5_valueOf_4 ?_
  obtain ⟨x1, ex1, hF⟩ := ltt_some hF
  refine lv_topi (fun zx1 ezx1 => ?_)
  obtain rfl : x1 = zx1 := ex1.trans ezx1.symm
  refine lv_iload_n hx hb dX5_valueOf_5 rfl (lv_at hl 1 rfl) ?_
  refine lv_iadd hx hb dX5_valueOf_6 ?_
  obtain ⟨x2, ex2, hF⟩ := ltt_some hF
  refine lv_topi (fun zx2 ezx2 => ?_)
  obtain rfl : x2 = zx2 := ex2.trans ezx2.symm
  refine lv_istore_n (lv' := [(2, .int x2), (0, .int p0), (1, .int p1)]) hx hb dX5_valueOf_7 rfl hl (by decide) rfl (fun ls hl => ?_)
  refine lv_iload_n hx hb dX5_valueOf_8 rfl (lv_at hl 2 rfl) ?_
  obtain ⟨y3, hy3, hF⟩ := bnd_some hF
  have J3 : ∀ (H : Heap) (locs : List Loc) (ls : Array Slot), va_P D classes (wld ct ad G M) H → va_D A (wld ct ad G M) → va_S A s.heap H locs → lv_has ls 3 [(2, .int x2), (0, .int p0), (1, .int p1)] → W p l e (headSpec wuX5_valueOf ({ frames := 0, cells := 0, slots := 0, locals := 0 })).room s m ([.int p0, .int p1] : List Value).toArray below meth c H locs 0 0 (MQ below (va_Qi (fun (q : Int32) (_ : Unit) => q = y.2) (fun _ t => kE D ct ad G A y.1 t) A) ([.int p0, .int p1] : List Value).toArray s 0 0 A) (F0 m 36 ls [.int y3]) := by
    intro H locs ls hP hD hS hl
    obtain rfl := Option.some.inj hF
    exact W.iret (v := y3) hx hb hr (fun t ht hW => ⟨⟨_, (), rfl, rfl, ⟨by rw [ht]; exact hP, va_K.moved hW.alike hK, hD⟩⟩, hS.F ht⟩) hS.2.2 dX5_valueOf_36
  clear hF
  have hF := hy3
  clear hy3
  refine lv_if_lt (tgt := 23) hx hb dX5_valueOf_9 (by decide) (fun c4 => ?_) (fun c4 => ?_)
  · rw [if_pos c4] at hF
    refine lv_iconst (v := (0 : Int32)) hx hb dX5_valueOf_23 (by decide) ?_
    refine lv_goto (tgt := 36) hx hb dX5_valueOf_24 (by decide) ?_
    obtain rfl := Option.some.inj hF
    exact J3 _ _ _ hP hD hS (lv_sub hl [0, 1, 2] rfl)
  · rw [if_neg c4] at hF
    refine lv_iload_n hx hb dX5_valueOf_12 rfl (lv_at hl 0 rfl) ?_
    refine va_gets hx hb (hZ.1 10 (by decide)).1 hS hown (hts (.fieldLink RX5 24 "VideoSuite$Reader" "TABLE_AT" "[I") (mu mw_279)) (fun _ h => h) dX5_valueOf_13 ?_
    refine lv_iload_n hx hb dX5_valueOf_16 rfl (lv_at hl 1 rfl) ?_
    refine lv_iconst (v := (1 : Int32)) hx hb dX5_valueOf_17 (by decide) ?_
    refine lv_iadd hx hb dX5_valueOf_18 ?_
    obtain ⟨x5, ex5, hF⟩ := ltt_some hF
    refine lv_topi (fun zx5 ezx5 => ?_)
    obtain rfl : x5 = zx5 := ex5.trans ezx5.symm
    obtain ⟨hvc, hF⟩ := chk_some hF
    refine va_ti (v := .int ((sT 10).getD x5.toNatClampNeg 0)) hx hb (hZ.1 10 (by decide)).2 hS hvc rfl dX5_valueOf_19 ?_
    obtain ⟨x6, ex6, hF⟩ := ltt_some hF
    refine lv_topi (fun zx6 ezx6 => ?_)
    obtain rfl : x6 = zx6 := ex6.trans ezx6.symm
    obtain ⟨y7, hy7, hF⟩ := bnd_some hF
    have J7 : ∀ (H : Heap) (locs : List Loc) (ls : Array Slot), va_P D classes (wld ct ad G M) H → va_D A (wld ct ad G M) → va_S A s.heap H locs → lv_has ls 3 [(2, .int x2), (0, .int p0), (1, .int p1)] → W p l e (headSpec wuX5_valueOf ({ frames := 0, cells := 0, slots := 0, locals := 0 })).room s m ([.int p0, .int p1] : List Value).toArray below meth c H locs 0 0 (MQ below (va_Qi (fun (q : Int32) (_ : Unit) => q = y.2) (fun _ t => kE D ct ad G A y.1 t) A) ([.int p0, .int p1] : List Value).toArray s 0 0 A) (F0 m 36 ls [.int y7]) := by
      intro H locs ls hP hD hS hl
      obtain rfl := Option.some.inj hF
      exact J3 _ _ _ hP hD hS (lv_sub hl [0, 1, 2] rfl)
    clear hF
    have hF := hy7
    clear hy7
    refine lv_icmp_lt (tgt := 27) hx hb dX5_valueOf_20 (by decide) (fun c8 => ?_) (fun c8 => ?_)
    · rw [if_pos c8] at hF
      refine va_gets hx hb (hZ.1 6 (by decide)).1 hS hown (hts (.fieldLink RX5 27 "VideoSuite$Reader" "CODES" "[I") (mu mw_281)) (fun _ h => h) dX5_valueOf_27 ?_
      refine lv_iconst (v := (2 : Int32)) hx hb dX5_valueOf_30 (by decide) ?_
      refine lv_iload_n hx hb dX5_valueOf_31 rfl (lv_at hl 0 rfl) ?_
      refine lv_imul hx hb dX5_valueOf_32 ?_
      obtain ⟨x9, ex9, hF⟩ := ltt_some hF
      refine lv_topi (fun zx9 ezx9 => ?_)
      obtain rfl : x9 = zx9 := ex9.trans ezx9.symm
      refine lv_iconst (v := (1 : Int32)) hx hb dX5_valueOf_33 (by decide) ?_
      refine lv_iadd hx hb dX5_valueOf_34 ?_
      obtain ⟨x10, ex10, hF⟩ := ltt_some hF
      refine lv_topi (fun zx10 ezx10 => ?_)
      obtain rfl : x10 = zx10 := ex10.trans ezx10.symm
      obtain ⟨hvc, hF⟩ := chk_some hF
      refine va_ti (v := .int ((sT 6).getD x10.toNatClampNeg 0)) hx hb (hZ.1 6 (by decide)).2 hS hvc rfl dX5_valueOf_35 ?_
      obtain ⟨x11, ex11, hF⟩ := ltt_some hF
      refine lv_topi (fun zx11 ezx11 => ?_)
      obtain rfl : x11 = zx11 := ex11.trans ezx11.symm
      obtain rfl := Option.some.inj hF
      exact J7 _ _ _ hP hD hS (lv_sub hl [0, 1, 2] rfl)
    · rw [if_neg c8] at hF
      refine lv_iconst (v := (0 : Int32)) hx hb dX5_valueOf_23 (by decide) ?_
      refine lv_goto (tgt := 36) hx hb dX5_valueOf_24 (by decide) ?_
      obtain rfl := Option.some.inj hF
      exact J7 _ _ _ hP hD hS (lv_sub hl [0, 1, 2] rfl)
set_option maxRecDepth 20000 in
theorem gX5_widen_X5_plainBit : GoodIn wuX5_widen (wsV RX5 107 RX5 yX5_plainBit wuX5_plainBit) := gu_V mw_1857 mw_1859 mw_51 mw_169 mw_1860
theorem dX5_widen_0 : decode cX5_widen 0 = .ok (.iconst 0, 1) := by decide +kernel
theorem dX5_widen_1 : decode cX5_widen 1 = .ok (.istore_n 1, 1) := by decide +kernel
theorem dX5_widen_2 : decode cX5_widen 2 = .ok (.iload_n 1, 1) := by decide +kernel
theorem dX5_widen_3 : decode cX5_widen 3 = .ok (.bipush 9, 2) := by decide +kernel
theorem dX5_widen_5 : decode cX5_widen 5 = .ok (.if_icmp .ge 44, 3) := by decide +kernel
theorem dX5_widen_8 : decode cX5_widen 8 = .ok (.aload_n 0, 1) := by decide +kernel
theorem dX5_widen_9 : decode cX5_widen 9 = .ok (.getfield 96, 3) := by decide +kernel
theorem dX5_widen_12 : decode cX5_widen 12 = .ok (.sipush 256, 3) := by decide +kernel
theorem dX5_widen_15 : decode cX5_widen 15 = .ok (.if_icmp .ge 34, 3) := by decide +kernel
theorem dX5_widen_18 : decode cX5_widen 18 = .ok (.aload_n 0, 1) := by decide +kernel
theorem dX5_widen_19 : decode cX5_widen 19 = .ok (.aload_n 0, 1) := by decide +kernel
theorem dX5_widen_20 : decode cX5_widen 20 = .ok (.getfield 99, 3) := by decide +kernel
theorem dX5_widen_23 : decode cX5_widen 23 = .ok (.iconst 1, 1) := by decide +kernel
theorem dX5_widen_24 : decode cX5_widen 24 = .ok (.ishl, 1) := by decide +kernel
theorem dX5_widen_25 : decode cX5_widen 25 = .ok (.aload_n 0, 1) := by decide +kernel
theorem dX5_widen_26 : decode cX5_widen 26 = .ok (.invokevirtual 107, 3) := by decide +kernel
theorem dX5_widen_29 : decode cX5_widen 29 = .ok (.ior, 1) := by decide +kernel
theorem dX5_widen_30 : decode cX5_widen 30 = .ok (.putfield 99, 3) := by decide +kernel
theorem dX5_widen_33 : decode cX5_widen 33 = .ok (.aload_n 0, 1) := by decide +kernel
theorem dX5_widen_34 : decode cX5_widen 34 = .ok (.dup, 1) := by decide +kernel
theorem dX5_widen_35 : decode cX5_widen 35 = .ok (.getfield 96, 3) := by decide +kernel
theorem dX5_widen_38 : decode cX5_widen 38 = .ok (.iconst 1, 1) := by decide +kernel
theorem dX5_widen_39 : decode cX5_widen 39 = .ok (.ishl, 1) := by decide +kernel
theorem dX5_widen_40 : decode cX5_widen 40 = .ok (.putfield 96, 3) := by decide +kernel
theorem dX5_widen_43 : decode cX5_widen 43 = .ok (.iinc 1 1, 3) := by decide +kernel
theorem dX5_widen_46 : decode cX5_widen 46 = .ok (.goto (-44), 3) := by decide +kernel
theorem dX5_widen_49 : decode cX5_widen 49 = .ok (.return_, 1) := by decide +kernel
def FX5_widen (G : GG) (M : DD) (a : Nat)  : Option (DD) :=
  bnd (itr (fun (s2 : Int32 × DD) => ((if ((9 : Int32)) ≤ s2.1 then (some (.inr (s2.1, s2.2))) else
  (ltt (s2.2.1 a 8) fun x6 =>
  if ((256 : Int32)) ≤ x6 then (some (.inr (s2.1, s2.2))) else
  (ltt (s2.2.1 a 9) fun x8 =>
  ltt ((x8 <<< (((1 : Int32)) &&& 31))) fun x9 =>
  bnd (FX5_plainBit G s2.2 a) fun y10 =>
  ltt ((x9 ||| y10.2)) fun x11 =>
  ltt (uI y10.1 a 9 x11) fun M12 =>
  ltt (M12.1 a 8) fun x13 =>
  ltt ((x13 <<< (((1 : Int32)) &&& 31))) fun x14 =>
  ltt (uI M12 a 8 x14) fun M15 =>
  ltt (s2.1 + (1 : Int32)) fun x16 =>
  some (.inl (x16, M15))))) : Option ((Int32 × DD) ⊕ (Int32 × DD)))) 1000000 ((0 : Int32), M)) fun (y1 : Int32 × DD) =>
  some y1.2
set_option maxHeartbeats 4000000 in
set_option maxRecDepth 100000 in
theorem kX5_widen (l : Launch) (D : va_G) (ct : CT) (ad : Nat → Nat) (Z : Nat → Nat) (G : GG) (M : DD) (sz : Nat) (a : Nat)  (y : DD) (hc : a < G.1) (hk : G.2.1 a = 5) (hF : FX5_widen G M a  = some y) : Met l yX5_widen wuX5_widen ({ frames := 1, cells := 0, slots := 0, locals := 21 }) (va_Pc [.ref (ad a)] (kB D ct ad Z G M sz)) (va_Qv (fun (_ : Unit) => True) (fun _ t => kE D ct ad G (wA ad G sz) y t) (wA ad G sz)) 0 0 (wA ad G sz) := by
  refine Met.ofW (cc := cX5_widen) (maxL := 2) (ret := none) (by decide) rfl ?_
  intro p e s m args below meth c s₁ B hml hv
  obtain ⟨rfl, hsz, hP, hK, hD0, hZ, hN⟩ := hv
  have hx := B.exec
  have hb := B.bytes
  have hr := B.returns
  have hts := atoms_spec (ws := wuX5_widen) B.pre
  have hown : s.vm.findClass RX5 = some m.cls := findClass_of_methodNamed B.named
  have hlocks := B.notSynchronized
  subst hsz
  have hD := wD_self (sz := s.heap.size) hD0
  have hA9 : ∀ q, s.heap.size ≤ q → wA ad G s.heap.size q := fun q h => Or.inr h
  generalize hAe : wA ad G s.heap.size = A at hD hA9 hZ ⊢
  have hS : va_S A s.heap s.heap [] := va_S.rf
  have hl := lv_entry ([.ref (ad a)]) (n := 2) (Nat.le_of_ble_eq_true rfl)
  rw [lg_entry_eq]
  generalize (lg_sl ([.ref (ad a)]) ++ List.replicate (2 - (lg_sl ([.ref (ad a)])).length) Slot.unset).toArray = ls at hl ⊢
  have hl : lv_has ls 2 [(0, .ref (ad a))] := hl
  unfold FX5_widen at hF
  refine lv_iconst (v := (0 : Int32)) hx hb dX5_widen_0 (by decide) ?_
  refine lv_istore_n (lv' := [(1, .int (0 : Int32)), (0, .ref (ad a))]) hx hb dX5_widen_1 rfl hl (by decide) rfl (fun ls hl => ?_)
  obtain ⟨y1, hy1, hF⟩ := bnd_some hF
  have K1 : ∀ (H : Heap) (locs : List Loc) (ls : Array Slot), va_P D classes (wld ct ad G y1.2) H → va_D A (wld ct ad G y1.2) → va_S A s.heap H locs → lv_has ls 2 [(1, .int y1.1), (0, .ref (ad a))] → W p l e (headSpec wuX5_widen ({ frames := 1, cells := 0, slots := 0, locals := 21 })).room s m ([.ref (ad a)] : List Value).toArray below meth c H locs 0 0 (MQ below (va_Qv (fun (_ : Unit) => True) (fun _ t => kE D ct ad G A y t) A) ([.ref (ad a)] : List Value).toArray s 0 0 A) (F0 m 49 ls []) := by
    intro H locs ls hP hD hS hl
    obtain rfl := Option.some.inj hF
    exact W.vret hx hb hr (fun t ht hW => ⟨⟨(), rfl, trivial, ⟨by rw [ht]; exact hP, va_K.moved hW.alike hK, hD⟩⟩, hS.F ht⟩) hS.2.2 dX5_widen_49
  clear hF
  refine itr_rule (fun (s2 : Int32 × DD) => ∀ (H : Heap) (locs : List Loc) (ls : Array Slot), va_P D classes (wld ct ad G s2.2) H → va_D A (wld ct ad G s2.2) → va_S A s.heap H locs → lv_has ls 2 [(1, .int s2.1), (0, .ref (ad a))] → W p l e (headSpec wuX5_widen ({ frames := 1, cells := 0, slots := 0, locals := 21 })).room s m ([.ref (ad a)] : List Value).toArray below meth c H locs 0 0 (MQ below (va_Qv (fun (_ : Unit) => True) (fun _ t => kE D ct ad G A y t) A) ([.ref (ad a)] : List Value).toArray s 0 0 A) (F0 m 2 ls [])) ?_ _ _ hy1 _ _ _ hP hD hS (lv_sub hl [0, 1] rfl)
  rintro s2 ⟨z4, hF, hwz4⟩ H locs ls hP hD hS hl
  try dsimp only at hF
  refine lv_iload_n hx hb dX5_widen_2 rfl (lv_at hl 0 rfl) ?_
  refine lv_bipush (v := (9 : Int32)) hx hb dX5_widen_3 (by decide) ?_
  refine lv_icmp_ge (tgt := 49) hx hb dX5_widen_5 (by decide) (fun c5 => ?_) (fun c5 => ?_)
  · rw [if_pos c5] at hF
    obtain rfl := Option.some.inj hF
    subst hwz4
    exact K1 _ _ _ hP hD hS (lv_sub hl [0, 1] rfl)
  · rw [if_neg c5] at hF
    refine lv_aload_n hx hb dX5_widen_8 rfl (lv_at hl 1 rfl) ?_
    refine va_get (D := D) (ci := 5) (v := .int (s2.2.1 a 8)) (C := RX5) (T := TX5) (N := 17) hx hb hts (mus hf_X5) hown hK hP a (wld_o ct ad G s2.2 hc hk (by decide)) rfl 8 (by decide) (hts (.fieldLink RX5 96 "VideoSuite$Reader" "range" "I") (mu mw_297)) (fun _ h9 => h9) rfl dX5_widen_9 ?_
    obtain ⟨x6, ex6, hF⟩ := ltt_some hF
    refine lv_topi (fun zx6 ezx6 => ?_)
    obtain rfl : x6 = zx6 := ex6.trans ezx6.symm
    refine lv_sipush (v := (256 : Int32)) hx hb dX5_widen_12 (by decide) ?_
    refine lv_icmp_ge (tgt := 49) hx hb dX5_widen_15 (by decide) (fun c7 => ?_) (fun c7 => ?_)
    · rw [if_pos c7] at hF
      obtain rfl := Option.some.inj hF
      subst hwz4
      exact K1 _ _ _ hP hD hS (lv_sub hl [0, 1] rfl)
    · rw [if_neg c7] at hF
      refine lv_aload_n hx hb dX5_widen_18 rfl (lv_at hl 1 rfl) ?_
      refine lv_aload_n hx hb dX5_widen_19 rfl (lv_at hl 1 rfl) ?_
      refine va_get (D := D) (ci := 5) (v := .int (s2.2.1 a 9)) (C := RX5) (T := TX5) (N := 17) hx hb hts (mus hf_X5) hown hK hP a (wld_o ct ad G s2.2 hc hk (by decide)) rfl 9 (by decide) (hts (.fieldLink RX5 99 "VideoSuite$Reader" "offset" "I") (mu mw_298)) (fun _ h9 => h9) rfl dX5_widen_20 ?_
      obtain ⟨x8, ex8, hF⟩ := ltt_some hF
      refine lv_topi (fun zx8 ezx8 => ?_)
      obtain rfl : x8 = zx8 := ex8.trans ezx8.symm
      refine lv_iconst (v := (1 : Int32)) hx hb dX5_widen_23 (by decide) ?_
      refine lv_ishl hx hb dX5_widen_24 ?_
      obtain ⟨x9, ex9, hF⟩ := ltt_some hF
      refine lv_topi (fun zx9 ezx9 => ?_)
      obtain rfl : x9 = zx9 := ex9.trans ezx9.symm
      refine lv_aload_n hx hb dX5_widen_25 rfl (lv_at hl 1 rfl) ?_
      obtain ⟨y10, hy10, hF⟩ := bnd_some hF
      have hf9 := wA_in hD hA9 hS
      refine va_calli (va_runV (As := []) (rest := [.int x9, .ref (ad a)]) ⟨hx, hb, hml, hown, hts⟩ (kX5_plainBit l D ct ad Z G s2.2 H.size a y10 hc hk hy10) (cwV 0 hts gX5_widen_X5_plainBit rfl rfl rfl (by decide +kernel) ⟨Nat.le_of_ble_eq_true rfl, Nat.le_of_ble_eq_true rfl⟩) ⟨fun a U g mk q => by obtain ⟨q0, q1, qP, qK, qD, qZ, qN⟩ := q; exact ⟨q0, q1, qP, va_K.moved (u := U) (U := U.calling g mk a) (Vm.Alike.refl U.vm) qK, qD, sF.moved (u := U) (U := U.calling g mk a) (Vm.Alike.refl U.vm) qZ, nF.same rfl qN⟩, va_recv hK hP (ci := 5) (q0 := a) rfl (wld_o ct ad G s2.2 hc hk (by decide)), fun U hU hW => ⟨rfl, by rw [hU], by rw [hU]; exact hP, va_K.moved hW.alike hK, hD.weaken (fun _ _ _ _ => trivial), by rw [hU]; exact ((hZ.kept hS.2.1).narrow hf9).moved hW.alike, hN.warm hW⟩⟩ rfl rfl hl.1 rfl (lv_room (Nat.le_of_ble_eq_true rfl)) dX5_widen_26 ⟨(Nat.zero_le _), (Nat.zero_le _)⟩) hS (fun q _ h => hf9 q h) hf9 (fun r u t H locs ht hvm hw hB hz1 hk1 hS => ?_)
      obtain ⟨hP, hK9, hD9⟩ := hB
      rw [ht] at hP
      try dsimp only at hw
      subst hw
      have hD := hD9.weaken (fun _ q _ h => hf9 q.1 h)
      refine lv_ior hx hb dX5_widen_29 ?_
      obtain ⟨x11, ex11, hF⟩ := ltt_some hF
      refine lv_topi (fun zx11 ezx11 => ?_)
      obtain rfl : x11 = zx11 := ex11.trans ezx11.symm
      refine va_put (D := D) (ci := 5) (v := .int x11) (ty := .int) (C := RX5) (T := TX5) (N := 17) hx hb hts (mus hf_X5) tyX5 tyX5_ok nmX5 hown hK hP hD hS a (wld_o ct ad G y10.1 hc hk (by decide)) rfl 9 (by decide) (hts (.fieldLink RX5 99 "VideoSuite$Reader" "offset" "I") (mu mw_298)) (fun _ h9 => h9) rfl (by decide +kernel) rfl rfl (Nat.le_of_ble_eq_true rfl) dX5_widen_30 (fun H locs hP hD hS => ?_)
      obtain ⟨M12, eM12, hF⟩ := ltt_some hF
      rw [set_oI ct ad G y10.1 hc hk (by decide) (by rfl), ← eM12] at hP hD
      refine lv_aload_n hx hb dX5_widen_33 rfl (lv_at hl 1 rfl) ?_
      refine lv_dup hx hb dX5_widen_34 rfl ?_
      refine va_get (D := D) (ci := 5) (v := .int (M12.1 a 8)) (C := RX5) (T := TX5) (N := 17) hx hb hts (mus hf_X5) hown hK hP a (wld_o ct ad G M12 hc hk (by decide)) rfl 8 (by decide) (hts (.fieldLink RX5 96 "VideoSuite$Reader" "range" "I") (mu mw_297)) (fun _ h9 => h9) rfl dX5_widen_35 ?_
      obtain ⟨x13, ex13, hF⟩ := ltt_some hF
      refine lv_topi (fun zx13 ezx13 => ?_)
      obtain rfl : x13 = zx13 := ex13.trans ezx13.symm
      refine lv_iconst (v := (1 : Int32)) hx hb dX5_widen_38 (by decide) ?_
      refine lv_ishl hx hb dX5_widen_39 ?_
      obtain ⟨x14, ex14, hF⟩ := ltt_some hF
      refine lv_topi (fun zx14 ezx14 => ?_)
      obtain rfl : x14 = zx14 := ex14.trans ezx14.symm
      refine va_put (D := D) (ci := 5) (v := .int x14) (ty := .int) (C := RX5) (T := TX5) (N := 17) hx hb hts (mus hf_X5) tyX5 tyX5_ok nmX5 hown hK hP hD hS a (wld_o ct ad G M12 hc hk (by decide)) rfl 8 (by decide) (hts (.fieldLink RX5 96 "VideoSuite$Reader" "range" "I") (mu mw_297)) (fun _ h9 => h9) rfl (by decide +kernel) rfl rfl (Nat.le_of_ble_eq_true rfl) dX5_widen_40 (fun H locs hP hD hS => ?_)
      obtain ⟨M15, eM15, hF⟩ := ltt_some hF
      rw [set_oI ct ad G M12 hc hk (by decide) (by rfl), ← eM15] at hP hD
      obtain ⟨x16, ex16, hF⟩ := ltt_some hF
      refine lv_iinc (v := x16) (lv' := [(1, .int x16), (0, .ref (ad a))]) hx hb dX5_widen_43 hl (k := 0) rfl (by rw [ex16]; rfl) (by decide) rfl (fun ls hl => ?_)
      refine lv_goto (tgt := 2) hx hb dX5_widen_46 (by decide) ?_
      obtain rfl := Option.some.inj hF
      exact hwz4 _ _ _ hP hD hS (lv_sub hl [0, 1] rfl)
set_option maxRecDepth 20000 in
theorem gX6_blend_X11_clip_n172 : GoodIn wuX6_blend wuX11_clip := gu_P mw_999
theorem dX6_blend_0 : decode cX6_blend 0 = .ok (.iload_n 1, 1) := by decide +kernel
theorem dX6_blend_1 : decode cX6_blend 1 = .ok (.iconst 1, 1) := by decide +kernel
theorem dX6_blend_2 : decode cX6_blend 2 = .ok (.if_icmp .eq 8, 3) := by decide +kernel
theorem dX6_blend_5 : decode cX6_blend 5 = .ok (.iload_n 1, 1) := by decide +kernel
theorem dX6_blend_6 : decode cX6_blend 6 = .ok (.iconst 4, 1) := by decide +kernel
theorem dX6_blend_7 : decode cX6_blend 7 = .ok (.if_icmp .ne 10, 3) := by decide +kernel
theorem dX6_blend_10 : decode cX6_blend 10 = .ok (.aload_n 0, 1) := by decide +kernel
theorem dX6_blend_11 : decode cX6_blend 11 = .ok (.getfield 18, 3) := by decide +kernel
theorem dX6_blend_14 : decode cX6_blend 14 = .ok (.goto 7, 3) := by decide +kernel
theorem dX6_blend_17 : decode cX6_blend 17 = .ok (.aload_n 0, 1) := by decide +kernel
theorem dX6_blend_18 : decode cX6_blend 18 = .ok (.getfield 15, 3) := by decide +kernel
theorem dX6_blend_21 : decode cX6_blend 21 = .ok (.astore 5, 2) := by decide +kernel
theorem dX6_blend_23 : decode cX6_blend 23 = .ok (.iload_n 1, 1) := by decide +kernel
theorem dX6_blend_24 : decode cX6_blend 24 = .ok (.iconst 4, 1) := by decide +kernel
theorem dX6_blend_25 : decode cX6_blend 25 = .ok (.if_icmp .ne 10, 3) := by decide +kernel
theorem dX6_blend_28 : decode cX6_blend 28 = .ok (.aload_n 0, 1) := by decide +kernel
theorem dX6_blend_29 : decode cX6_blend 29 = .ok (.getfield 152, 3) := by decide +kernel
theorem dX6_blend_32 : decode cX6_blend 32 = .ok (.goto 7, 3) := by decide +kernel
theorem dX6_blend_35 : decode cX6_blend 35 = .ok (.aload_n 0, 1) := by decide +kernel
theorem dX6_blend_36 : decode cX6_blend 36 = .ok (.getfield 155, 3) := by decide +kernel
theorem dX6_blend_39 : decode cX6_blend 39 = .ok (.istore 6, 2) := by decide +kernel
theorem dX6_blend_41 : decode cX6_blend 41 = .ok (.iload_n 1, 1) := by decide +kernel
theorem dX6_blend_42 : decode cX6_blend 42 = .ok (.iconst 4, 1) := by decide +kernel
theorem dX6_blend_43 : decode cX6_blend 43 = .ok (.if_icmp .ne 10, 3) := by decide +kernel
theorem dX6_blend_46 : decode cX6_blend 46 = .ok (.aload_n 0, 1) := by decide +kernel
theorem dX6_blend_47 : decode cX6_blend 47 = .ok (.getfield 161, 3) := by decide +kernel
theorem dX6_blend_50 : decode cX6_blend 50 = .ok (.goto 7, 3) := by decide +kernel
theorem dX6_blend_53 : decode cX6_blend 53 = .ok (.aload_n 0, 1) := by decide +kernel
theorem dX6_blend_54 : decode cX6_blend 54 = .ok (.getfield 158, 3) := by decide +kernel
theorem dX6_blend_57 : decode cX6_blend 57 = .ok (.istore 7, 2) := by decide +kernel
theorem dX6_blend_59 : decode cX6_blend 59 = .ok (.iconst 0, 1) := by decide +kernel
theorem dX6_blend_60 : decode cX6_blend 60 = .ok (.istore 8, 2) := by decide +kernel
theorem dX6_blend_62 : decode cX6_blend 62 = .ok (.iload 8, 2) := by decide +kernel
theorem dX6_blend_64 : decode cX6_blend 64 = .ok (.iload 4, 2) := by decide +kernel
theorem dX6_blend_66 : decode cX6_blend 66 = .ok (.if_icmp .ge 223, 3) := by decide +kernel
theorem dX6_blend_69 : decode cX6_blend 69 = .ok (.iload_n 2, 1) := by decide +kernel
theorem dX6_blend_70 : decode cX6_blend 70 = .ok (.iload 8, 2) := by decide +kernel
theorem dX6_blend_72 : decode cX6_blend 72 = .ok (.iload_n 3, 1) := by decide +kernel
theorem dX6_blend_73 : decode cX6_blend 73 = .ok (.imul, 1) := by decide +kernel
theorem dX6_blend_74 : decode cX6_blend 74 = .ok (.iadd, 1) := by decide +kernel
theorem dX6_blend_75 : decode cX6_blend 75 = .ok (.istore 9, 2) := by decide +kernel
theorem dX6_blend_77 : decode cX6_blend 77 = .ok (.iload 9, 2) := by decide +kernel
theorem dX6_blend_79 : decode cX6_blend 79 = .ok (.iload_n 2, 1) := by decide +kernel
theorem dX6_blend_80 : decode cX6_blend 80 = .ok (.iload 8, 2) := by decide +kernel
theorem dX6_blend_82 : decode cX6_blend 82 = .ok (.iload_n 3, 1) := by decide +kernel
theorem dX6_blend_83 : decode cX6_blend 83 = .ok (.imul, 1) := by decide +kernel
theorem dX6_blend_84 : decode cX6_blend 84 = .ok (.iadd, 1) := by decide +kernel
theorem dX6_blend_85 : decode cX6_blend 85 = .ok (.iload 4, 2) := by decide +kernel
theorem dX6_blend_87 : decode cX6_blend 87 = .ok (.iadd, 1) := by decide +kernel
theorem dX6_blend_88 : decode cX6_blend 88 = .ok (.if_icmp .ge 195, 3) := by decide +kernel
theorem dX6_blend_91 : decode cX6_blend 91 = .ok (.iload_n 1, 1) := by decide +kernel
theorem dX6_blend_92 : decode cX6_blend 92 = .ok (.iconst 2, 1) := by decide +kernel
theorem dX6_blend_93 : decode cX6_blend 93 = .ok (.if_icmp .ge 18, 3) := by decide +kernel
theorem dX6_blend_96 : decode cX6_blend 96 = .ok (.aload_n 0, 1) := by decide +kernel
theorem dX6_blend_97 : decode cX6_blend 97 = .ok (.getfield 9, 3) := by decide +kernel
theorem dX6_blend_100 : decode cX6_blend 100 = .ok (.iload 9, 2) := by decide +kernel
theorem dX6_blend_102 : decode cX6_blend 102 = .ok (.aload 5, 2) := by decide +kernel
theorem dX6_blend_104 : decode cX6_blend 104 = .ok (.iload 9, 2) := by decide +kernel
theorem dX6_blend_106 : decode cX6_blend 106 = .ok (.iaload, 1) := by decide +kernel
theorem dX6_blend_107 : decode cX6_blend 107 = .ok (.iastore, 1) := by decide +kernel
theorem dX6_blend_108 : decode cX6_blend 108 = .ok (.goto 169, 3) := by decide +kernel
theorem dX6_blend_111 : decode cX6_blend 111 = .ok (.iload_n 1, 1) := by decide +kernel
theorem dX6_blend_112 : decode cX6_blend 112 = .ok (.iconst 2, 1) := by decide +kernel
theorem dX6_blend_113 : decode cX6_blend 113 = .ok (.if_icmp .ne 32, 3) := by decide +kernel
theorem dX6_blend_116 : decode cX6_blend 116 = .ok (.aload_n 0, 1) := by decide +kernel
theorem dX6_blend_117 : decode cX6_blend 117 = .ok (.getfield 9, 3) := by decide +kernel
theorem dX6_blend_120 : decode cX6_blend 120 = .ok (.iload 9, 2) := by decide +kernel
theorem dX6_blend_122 : decode cX6_blend 122 = .ok (.aload_n 0, 1) := by decide +kernel
theorem dX6_blend_123 : decode cX6_blend 123 = .ok (.getfield 15, 3) := by decide +kernel
theorem dX6_blend_126 : decode cX6_blend 126 = .ok (.iload 9, 2) := by decide +kernel
theorem dX6_blend_128 : decode cX6_blend 128 = .ok (.iaload, 1) := by decide +kernel
theorem dX6_blend_129 : decode cX6_blend 129 = .ok (.aload_n 0, 1) := by decide +kernel
theorem dX6_blend_130 : decode cX6_blend 130 = .ok (.getfield 18, 3) := by decide +kernel
theorem dX6_blend_133 : decode cX6_blend 133 = .ok (.iload 9, 2) := by decide +kernel
theorem dX6_blend_135 : decode cX6_blend 135 = .ok (.iaload, 1) := by decide +kernel
theorem dX6_blend_136 : decode cX6_blend 136 = .ok (.iadd, 1) := by decide +kernel
theorem dX6_blend_137 : decode cX6_blend 137 = .ok (.iconst 1, 1) := by decide +kernel
theorem dX6_blend_138 : decode cX6_blend 138 = .ok (.iadd, 1) := by decide +kernel
theorem dX6_blend_139 : decode cX6_blend 139 = .ok (.iconst 1, 1) := by decide +kernel
theorem dX6_blend_140 : decode cX6_blend 140 = .ok (.ishr, 1) := by decide +kernel
theorem dX6_blend_141 : decode cX6_blend 141 = .ok (.iastore, 1) := by decide +kernel
theorem dX6_blend_142 : decode cX6_blend 142 = .ok (.goto 135, 3) := by decide +kernel
theorem dX6_blend_145 : decode cX6_blend 145 = .ok (.iload_n 1, 1) := by decide +kernel
theorem dX6_blend_146 : decode cX6_blend 146 = .ok (.iconst 5, 1) := by decide +kernel
theorem dX6_blend_147 : decode cX6_blend 147 = .ok (.if_icmp .ne 73, 3) := by decide +kernel
theorem dX6_blend_150 : decode cX6_blend 150 = .ok (.aload_n 0, 1) := by decide +kernel
theorem dX6_blend_151 : decode cX6_blend 151 = .ok (.getfield 15, 3) := by decide +kernel
theorem dX6_blend_154 : decode cX6_blend 154 = .ok (.iload 9, 2) := by decide +kernel
theorem dX6_blend_156 : decode cX6_blend 156 = .ok (.iaload, 1) := by decide +kernel
theorem dX6_blend_157 : decode cX6_blend 157 = .ok (.aload_n 0, 1) := by decide +kernel
theorem dX6_blend_158 : decode cX6_blend 158 = .ok (.getfield 155, 3) := by decide +kernel
theorem dX6_blend_161 : decode cX6_blend 161 = .ok (.imul, 1) := by decide +kernel
theorem dX6_blend_162 : decode cX6_blend 162 = .ok (.aload_n 0, 1) := by decide +kernel
theorem dX6_blend_163 : decode cX6_blend 163 = .ok (.getfield 18, 3) := by decide +kernel
theorem dX6_blend_166 : decode cX6_blend 166 = .ok (.iload 9, 2) := by decide +kernel
theorem dX6_blend_168 : decode cX6_blend 168 = .ok (.iaload, 1) := by decide +kernel
theorem dX6_blend_169 : decode cX6_blend 169 = .ok (.aload_n 0, 1) := by decide +kernel
theorem dX6_blend_170 : decode cX6_blend 170 = .ok (.getfield 152, 3) := by decide +kernel
theorem dX6_blend_173 : decode cX6_blend 173 = .ok (.imul, 1) := by decide +kernel
theorem dX6_blend_174 : decode cX6_blend 174 = .ok (.iadd, 1) := by decide +kernel
theorem dX6_blend_175 : decode cX6_blend 175 = .ok (.iconst 1, 1) := by decide +kernel
theorem dX6_blend_176 : decode cX6_blend 176 = .ok (.aload_n 0, 1) := by decide +kernel
theorem dX6_blend_177 : decode cX6_blend 177 = .ok (.getfield 164, 3) := by decide +kernel
theorem dX6_blend_180 : decode cX6_blend 180 = .ok (.ishl, 1) := by decide +kernel
theorem dX6_blend_181 : decode cX6_blend 181 = .ok (.iadd, 1) := by decide +kernel
theorem dX6_blend_182 : decode cX6_blend 182 = .ok (.istore 10, 2) := by decide +kernel
theorem dX6_blend_184 : decode cX6_blend 184 = .ok (.aload_n 0, 1) := by decide +kernel
theorem dX6_blend_185 : decode cX6_blend 185 = .ok (.getfield 9, 3) := by decide +kernel
theorem dX6_blend_188 : decode cX6_blend 188 = .ok (.iload 9, 2) := by decide +kernel
theorem dX6_blend_190 : decode cX6_blend 190 = .ok (.iload 10, 2) := by decide +kernel
theorem dX6_blend_192 : decode cX6_blend 192 = .ok (.aload_n 0, 1) := by decide +kernel
theorem dX6_blend_193 : decode cX6_blend 193 = .ok (.getfield 164, 3) := by decide +kernel
theorem dX6_blend_196 : decode cX6_blend 196 = .ok (.iconst 1, 1) := by decide +kernel
theorem dX6_blend_197 : decode cX6_blend 197 = .ok (.iadd, 1) := by decide +kernel
theorem dX6_blend_198 : decode cX6_blend 198 = .ok (.ishr, 1) := by decide +kernel
theorem dX6_blend_199 : decode cX6_blend 199 = .ok (.aload_n 0, 1) := by decide +kernel
theorem dX6_blend_200 : decode cX6_blend 200 = .ok (.getfield 158, 3) := by decide +kernel
theorem dX6_blend_203 : decode cX6_blend 203 = .ok (.aload_n 0, 1) := by decide +kernel
theorem dX6_blend_204 : decode cX6_blend 204 = .ok (.getfield 161, 3) := by decide +kernel
theorem dX6_blend_207 : decode cX6_blend 207 = .ok (.iadd, 1) := by decide +kernel
theorem dX6_blend_208 : decode cX6_blend 208 = .ok (.iconst 1, 1) := by decide +kernel
theorem dX6_blend_209 : decode cX6_blend 209 = .ok (.iadd, 1) := by decide +kernel
theorem dX6_blend_210 : decode cX6_blend 210 = .ok (.iconst 1, 1) := by decide +kernel
theorem dX6_blend_211 : decode cX6_blend 211 = .ok (.ishr, 1) := by decide +kernel
theorem dX6_blend_212 : decode cX6_blend 212 = .ok (.iadd, 1) := by decide +kernel
theorem dX6_blend_213 : decode cX6_blend 213 = .ok (.invokestatic 172, 3) := by decide +kernel
theorem dX6_blend_216 : decode cX6_blend 216 = .ok (.iastore, 1) := by decide +kernel
theorem dX6_blend_217 : decode cX6_blend 217 = .ok (.goto 60, 3) := by decide +kernel
theorem dX6_blend_220 : decode cX6_blend 220 = .ok (.aload_n 0, 1) := by decide +kernel
theorem dX6_blend_221 : decode cX6_blend 221 = .ok (.getfield 164, 3) := by decide +kernel
theorem dX6_blend_224 : decode cX6_blend 224 = .ok (.ifCond .le 28, 3) := by decide +kernel
theorem dX6_blend_227 : decode cX6_blend 227 = .ok (.aload 5, 2) := by decide +kernel
theorem dX6_blend_229 : decode cX6_blend 229 = .ok (.iload 9, 2) := by decide +kernel
theorem dX6_blend_231 : decode cX6_blend 231 = .ok (.iaload, 1) := by decide +kernel
theorem dX6_blend_232 : decode cX6_blend 232 = .ok (.iload 6, 2) := by decide +kernel
theorem dX6_blend_234 : decode cX6_blend 234 = .ok (.imul, 1) := by decide +kernel
theorem dX6_blend_235 : decode cX6_blend 235 = .ok (.iconst 1, 1) := by decide +kernel
theorem dX6_blend_236 : decode cX6_blend 236 = .ok (.aload_n 0, 1) := by decide +kernel
theorem dX6_blend_237 : decode cX6_blend 237 = .ok (.getfield 164, 3) := by decide +kernel
theorem dX6_blend_240 : decode cX6_blend 240 = .ok (.iconst 1, 1) := by decide +kernel
theorem dX6_blend_241 : decode cX6_blend 241 = .ok (.isub, 1) := by decide +kernel
theorem dX6_blend_242 : decode cX6_blend 242 = .ok (.ishl, 1) := by decide +kernel
theorem dX6_blend_243 : decode cX6_blend 243 = .ok (.iadd, 1) := by decide +kernel
theorem dX6_blend_244 : decode cX6_blend 244 = .ok (.aload_n 0, 1) := by decide +kernel
theorem dX6_blend_245 : decode cX6_blend 245 = .ok (.getfield 164, 3) := by decide +kernel
theorem dX6_blend_248 : decode cX6_blend 248 = .ok (.ishr, 1) := by decide +kernel
theorem dX6_blend_249 : decode cX6_blend 249 = .ok (.goto 11, 3) := by decide +kernel
theorem dX6_blend_252 : decode cX6_blend 252 = .ok (.aload 5, 2) := by decide +kernel
theorem dX6_blend_254 : decode cX6_blend 254 = .ok (.iload 9, 2) := by decide +kernel
theorem dX6_blend_256 : decode cX6_blend 256 = .ok (.iaload, 1) := by decide +kernel
theorem dX6_blend_257 : decode cX6_blend 257 = .ok (.iload 6, 2) := by decide +kernel
theorem dX6_blend_259 : decode cX6_blend 259 = .ok (.imul, 1) := by decide +kernel
theorem dX6_blend_260 : decode cX6_blend 260 = .ok (.istore 10, 2) := by decide +kernel
theorem dX6_blend_262 : decode cX6_blend 262 = .ok (.aload_n 0, 1) := by decide +kernel
theorem dX6_blend_263 : decode cX6_blend 263 = .ok (.getfield 9, 3) := by decide +kernel
theorem dX6_blend_266 : decode cX6_blend 266 = .ok (.iload 9, 2) := by decide +kernel
theorem dX6_blend_268 : decode cX6_blend 268 = .ok (.iload 10, 2) := by decide +kernel
theorem dX6_blend_270 : decode cX6_blend 270 = .ok (.iload 7, 2) := by decide +kernel
theorem dX6_blend_272 : decode cX6_blend 272 = .ok (.iadd, 1) := by decide +kernel
theorem dX6_blend_273 : decode cX6_blend 273 = .ok (.invokestatic 172, 3) := by decide +kernel
theorem dX6_blend_276 : decode cX6_blend 276 = .ok (.iastore, 1) := by decide +kernel
theorem dX6_blend_277 : decode cX6_blend 277 = .ok (.iinc 9 1, 3) := by decide +kernel
theorem dX6_blend_280 : decode cX6_blend 280 = .ok (.goto (-203), 3) := by decide +kernel
theorem dX6_blend_283 : decode cX6_blend 283 = .ok (.iinc 8 1, 3) := by decide +kernel
theorem dX6_blend_286 : decode cX6_blend 286 = .ok (.goto (-224), 3) := by decide +kernel
theorem dX6_blend_289 : decode cX6_blend 289 = .ok (.return_, 1) := by decide +kernel
def FX6_blend (G : GG) (M : DD) (a : Nat) (p0 : Int32) (p1 : Int32) (p2 : Int32) (p3 : Int32) : Option (DD) :=
  bnd (if p0 = ((1 : Int32)) then (some ((M.2 a 2))) else
  (bnd (if p0 = ((4 : Int32)) then (some ((M.2 a 2))) else
  (some ((M.2 a 1)))) fun (y90 : Option Nat) =>
  some (y90))) fun (y1 : Option Nat) =>
  bnd (if p0 = ((4 : Int32)) then (ltt (M.1 a 10) fun x88 =>
  some (x88)) else
  (ltt (M.1 a 9) fun x87 =>
  some (x87))) fun (y2 : Int32) =>
  bnd (if p0 = ((4 : Int32)) then (ltt (M.1 a 12) fun x85 =>
  some (x85)) else
  (ltt (M.1 a 11) fun x84 =>
  some (x84))) fun (y3 : Int32) =>
  bnd (itr (fun (s5 : Int32 × DD) => ((if p3 ≤ s5.1 then (some (.inr (s5.1, s5.2))) else
  (ltt ((s5.1 * p2)) fun x9 =>
  ltt ((p1 + x9)) fun x10 =>
  bnd (itr (fun (s12 : Int32 × DD) => ((ltt ((s5.1 * p2)) fun x16 =>
  ltt ((p1 + x16)) fun x17 =>
  ltt ((x17 + p3)) fun x18 =>
  if x18 ≤ s12.1 then (some (.inr (s12.1, s12.2))) else
  (bnd (if ((2 : Int32)) ≤ p0 then (bnd (if p0 = ((2 : Int32)) then (dr G 13 ((s12.2.2 a 1)) fun b70 =>
  chk (¬ (s12.1 < 0 ∨ G.2.2 b70 ≤ s12.1.toNatClampNeg)) <|
  ltt (s12.2.1 b70 s12.1.toNatClampNeg) fun x71 =>
  dr G 13 ((s12.2.2 a 2)) fun b72 =>
  chk (¬ (s12.1 < 0 ∨ G.2.2 b72 ≤ s12.1.toNatClampNeg)) <|
  ltt (s12.2.1 b72 s12.1.toNatClampNeg) fun x73 =>
  ltt ((x71 + x73)) fun x74 =>
  ltt ((x74 + ((1 : Int32)))) fun x75 =>
  ltt ((x75 >>> (((1 : Int32)) &&& 31))) fun x76 =>
  dr G 13 ((s12.2.2 a 0)) fun b77 =>
  chk (¬ (s12.1 < 0 ∨ G.2.2 b77 ≤ s12.1.toNatClampNeg)) <|
  ltt (uI s12.2 b77 s12.1.toNatClampNeg x76) fun M78 =>
  some (M78)) else
  (bnd (if p0 = ((5 : Int32)) then (dr G 13 ((s12.2.2 a 1)) fun b46 =>
  chk (¬ (s12.1 < 0 ∨ G.2.2 b46 ≤ s12.1.toNatClampNeg)) <|
  ltt (s12.2.1 b46 s12.1.toNatClampNeg) fun x47 =>
  ltt (s12.2.1 a 9) fun x48 =>
  ltt ((x47 * x48)) fun x49 =>
  dr G 13 ((s12.2.2 a 2)) fun b50 =>
  chk (¬ (s12.1 < 0 ∨ G.2.2 b50 ≤ s12.1.toNatClampNeg)) <|
  ltt (s12.2.1 b50 s12.1.toNatClampNeg) fun x51 =>
  ltt (s12.2.1 a 10) fun x52 =>
  ltt ((x51 * x52)) fun x53 =>
  ltt ((x49 + x53)) fun x54 =>
  ltt (s12.2.1 a 13) fun x55 =>
  ltt ((((1 : Int32)) <<< (x55 &&& 31))) fun x56 =>
  ltt ((x54 + x56)) fun x57 =>
  ltt (s12.2.1 a 13) fun x58 =>
  ltt ((x58 + ((1 : Int32)))) fun x59 =>
  ltt ((x57 >>> (x59 &&& 31))) fun x60 =>
  ltt (s12.2.1 a 11) fun x61 =>
  ltt (s12.2.1 a 12) fun x62 =>
  ltt ((x61 + x62)) fun x63 =>
  ltt ((x63 + ((1 : Int32)))) fun x64 =>
  ltt ((x64 >>> (((1 : Int32)) &&& 31))) fun x65 =>
  ltt ((x60 + x65)) fun x66 =>
  bnd (FX11_clip G s12.2 x66) fun y67 =>
  dr G 13 ((s12.2.2 a 0)) fun b68 =>
  chk (¬ (s12.1 < 0 ∨ G.2.2 b68 ≤ s12.1.toNatClampNeg)) <|
  ltt (uI y67.1 b68 s12.1.toNatClampNeg y67.2) fun M69 =>
  some (x57, M69)) else
  (ltt (s12.2.1 a 13) fun x27 =>
  bnd (if x27 ≤ ((0 : Int32)) then (dr G 13 y1 fun b34 =>
  chk (¬ (s12.1 < 0 ∨ G.2.2 b34 ≤ s12.1.toNatClampNeg)) <|
  ltt (s12.2.1 b34 s12.1.toNatClampNeg) fun x35 =>
  ltt ((x35 * y2)) fun x36 =>
  some (x36)) else
  (dr G 13 y1 fun b37 =>
  chk (¬ (s12.1 < 0 ∨ G.2.2 b37 ≤ s12.1.toNatClampNeg)) <|
  ltt (s12.2.1 b37 s12.1.toNatClampNeg) fun x38 =>
  ltt ((x38 * y2)) fun x39 =>
  ltt (s12.2.1 a 13) fun x40 =>
  ltt ((x40 - ((1 : Int32)))) fun x41 =>
  ltt ((((1 : Int32)) <<< (x41 &&& 31))) fun x42 =>
  ltt ((x39 + x42)) fun x43 =>
  ltt (s12.2.1 a 13) fun x44 =>
  ltt ((x43 >>> (x44 &&& 31))) fun x45 =>
  some (x45))) fun (y28 : Int32) =>
  ltt ((y28 + y3)) fun x29 =>
  bnd (FX11_clip G s12.2 x29) fun y30 =>
  dr G 13 ((s12.2.2 a 0)) fun b31 =>
  chk (¬ (s12.1 < 0 ∨ G.2.2 b31 ≤ s12.1.toNatClampNeg)) <|
  ltt (uI y30.1 b31 s12.1.toNatClampNeg y30.2) fun M32 =>
  some (y28, M32))) fun (y25 : Int32 × DD) =>
  some (y25.2))) fun (y23 : DD) =>
  some (y23)) else
  (dr G 13 y1 fun b79 =>
  chk (¬ (s12.1 < 0 ∨ G.2.2 b79 ≤ s12.1.toNatClampNeg)) <|
  ltt (s12.2.1 b79 s12.1.toNatClampNeg) fun x80 =>
  dr G 13 ((s12.2.2 a 0)) fun b81 =>
  chk (¬ (s12.1 < 0 ∨ G.2.2 b81 ≤ s12.1.toNatClampNeg)) <|
  ltt (uI s12.2 b81 s12.1.toNatClampNeg x80) fun M82 =>
  some (M82))) fun (y20 : DD) =>
  ltt (s12.1 + (1 : Int32)) fun x21 =>
  some (.inl (x21, y20)))) : Option ((Int32 × DD) ⊕ (Int32 × DD)))) 1000000 (x10, s5.2)) fun (y11 : Int32 × DD) =>
  ltt (s5.1 + (1 : Int32)) fun x14 =>
  some (.inl (x14, y11.2)))) : Option ((Int32 × DD) ⊕ (Int32 × DD)))) 1000000 ((0 : Int32), M)) fun (y4 : Int32 × DD) =>
  some y4.2
set_option maxHeartbeats 4000000 in
set_option maxRecDepth 100000 in
theorem kX6_blend (l : Launch) (D : va_G) (ct : CT) (ad : Nat → Nat) (Z : Nat → Nat) (G : GG) (M : DD) (sz : Nat) (a : Nat) (p0 : Int32) (p1 : Int32) (p2 : Int32) (p3 : Int32) (y : DD) (hc : a < G.1) (hk : G.2.1 a = 6) (hF : FX6_blend G M a p0 p1 p2 p3 = some y) : Met l yX6_blend wuX6_blend ({ frames := 1, cells := 0, slots := 0, locals := 20 }) (va_Pc [.ref (ad a), .int p0, .int p1, .int p2, .int p3] (kB D ct ad Z G M sz)) (va_Qv (fun (_ : Unit) => True) (fun _ t => kE D ct ad G (wA ad G sz) y t) (wA ad G sz)) 0 0 (wA ad G sz) := by
  refine Met.ofW (cc := cX6_blend) (maxL := 11) (ret := none) (by decide) rfl ?_
  intro p e s m args below meth c s₁ B hml hv
  obtain ⟨rfl, hsz, hP, hK, hD0, hZ, hN⟩ := hv
  have hx := B.exec
  have hb := B.bytes
  have hr := B.returns
  have hts := atoms_spec (ws := wuX6_blend) B.pre
  have hown : s.vm.findClass RX6 = some m.cls := findClass_of_methodNamed B.named
  have hlocks := B.notSynchronized
  subst hsz
  have hD := wD_self (sz := s.heap.size) hD0
  have hA9 : ∀ q, s.heap.size ≤ q → wA ad G s.heap.size q := fun q h => Or.inr h
  generalize hAe : wA ad G s.heap.size = A at hD hA9 hZ ⊢
  have hS : va_S A s.heap s.heap [] := va_S.rf
  have hl := lv_entry ([.ref (ad a), .int p0, .int p1, .int p2, .int p3]) (n := 11) (Nat.le_of_ble_eq_true rfl)
  rw [lg_entry_eq]
  generalize (lg_sl ([.ref (ad a), .int p0, .int p1, .int p2, .int p3]) ++ List.replicate (11 - (lg_sl ([.ref (ad a), .int p0, .int p1, .int p2, .int p3])).length) Slot.unset).toArray = ls at hl ⊢
  have hl : lv_has ls 11 [(0, .ref (ad a)), (1, .int p0), (2, .int p1), (3, .int p2), (4, .int p3)] := hl
  unfold FX6_blend at hF
  refine lv_iload_n hx hb dX6_blend_0 rfl (lv_at hl 1 rfl) ?_
  refine lv_iconst (v := (1 : Int32)) hx hb dX6_blend_1 (by decide) ?_
  obtain ⟨y1, hy1, hF⟩ := bnd_some hF
  have J1 : ∀ (H : Heap) (locs : List Loc) (ls : Array Slot), va_P D classes (wld ct ad G M) H → va_D A (wld ct ad G M) → va_S A s.heap H locs → lv_has ls 11 [(0, .ref (ad a)), (1, .int p0), (2, .int p1), (3, .int p2), (4, .int p3)] → W p l e (headSpec wuX6_blend ({ frames := 1, cells := 0, slots := 0, locals := 20 })).room s m ([.ref (ad a), .int p0, .int p1, .int p2, .int p3] : List Value).toArray below meth c H locs 0 0 (MQ below (va_Qv (fun (_ : Unit) => True) (fun _ t => kE D ct ad G A y t) A) ([.ref (ad a), .int p0, .int p1, .int p2, .int p3] : List Value).toArray s 0 0 A) (F0 m 21 ls [va_re ad y1]) := by
    intro H locs ls hP hD hS hl
    refine lv_astoreq (lv' := [(5, va_re ad y1), (0, .ref (ad a)), (1, .int p0), (2, .int p1), (3, .int p2), (4, .int p3)]) hx hb dX6_blend_21 hl (by decide) rfl (fun ls hl => ?_)
    refine lv_iload_n hx hb dX6_blend_23 rfl (lv_at hl 2 rfl) ?_
    refine lv_iconst (v := (4 : Int32)) hx hb dX6_blend_24 (by decide) ?_
    obtain ⟨y2, hy2, hF⟩ := bnd_some hF
    have J2 : ∀ (H : Heap) (locs : List Loc) (ls : Array Slot), va_P D classes (wld ct ad G M) H → va_D A (wld ct ad G M) → va_S A s.heap H locs → lv_has ls 11 [(5, va_re ad y1), (0, .ref (ad a)), (1, .int p0), (2, .int p1), (3, .int p2), (4, .int p3)] → W p l e (headSpec wuX6_blend ({ frames := 1, cells := 0, slots := 0, locals := 20 })).room s m ([.ref (ad a), .int p0, .int p1, .int p2, .int p3] : List Value).toArray below meth c H locs 0 0 (MQ below (va_Qv (fun (_ : Unit) => True) (fun _ t => kE D ct ad G A y t) A) ([.ref (ad a), .int p0, .int p1, .int p2, .int p3] : List Value).toArray s 0 0 A) (F0 m 39 ls [.int y2]) := by
      intro H locs ls hP hD hS hl
      refine lv_istore (lv' := [(6, .int y2), (5, va_re ad y1), (0, .ref (ad a)), (1, .int p0), (2, .int p1), (3, .int p2), (4, .int p3)]) hx hb dX6_blend_39 hl (by decide) (by generalize y1 = o9; cases o9 <;> rfl) (fun ls hl => ?_)
      refine lv_iload_n hx hb dX6_blend_41 rfl (lv_at hl 3 rfl) ?_
      refine lv_iconst (v := (4 : Int32)) hx hb dX6_blend_42 (by decide) ?_
      obtain ⟨y3, hy3, hF⟩ := bnd_some hF
      have J3 : ∀ (H : Heap) (locs : List Loc) (ls : Array Slot), va_P D classes (wld ct ad G M) H → va_D A (wld ct ad G M) → va_S A s.heap H locs → lv_has ls 11 [(6, .int y2), (5, va_re ad y1), (0, .ref (ad a)), (1, .int p0), (2, .int p1), (3, .int p2), (4, .int p3)] → W p l e (headSpec wuX6_blend ({ frames := 1, cells := 0, slots := 0, locals := 20 })).room s m ([.ref (ad a), .int p0, .int p1, .int p2, .int p3] : List Value).toArray below meth c H locs 0 0 (MQ below (va_Qv (fun (_ : Unit) => True) (fun _ t => kE D ct ad G A y t) A) ([.ref (ad a), .int p0, .int p1, .int p2, .int p3] : List Value).toArray s 0 0 A) (F0 m 57 ls [.int y3]) := by
        intro H locs ls hP hD hS hl
        refine lv_istore (lv' := [(7, .int y3), (6, .int y2), (5, va_re ad y1), (0, .ref (ad a)), (1, .int p0), (2, .int p1), (3, .int p2), (4, .int p3)]) hx hb dX6_blend_57 hl (by decide) rfl (fun ls hl => ?_)
        refine lv_iconst (v := (0 : Int32)) hx hb dX6_blend_59 (by decide) ?_
        refine lv_istore (lv' := [(8, .int (0 : Int32)), (7, .int y3), (6, .int y2), (5, va_re ad y1), (0, .ref (ad a)), (1, .int p0), (2, .int p1), (3, .int p2), (4, .int p3)]) hx hb dX6_blend_60 hl (by decide) rfl (fun ls hl => ?_)
        obtain ⟨y4, hy4, hF⟩ := bnd_some hF
        have K4 : ∀ (H : Heap) (locs : List Loc) (ls : Array Slot), va_P D classes (wld ct ad G y4.2) H → va_D A (wld ct ad G y4.2) → va_S A s.heap H locs → lv_has ls 11 [(8, .int y4.1), (7, .int y3), (6, .int y2), (5, va_re ad y1), (0, .ref (ad a)), (1, .int p0), (2, .int p1), (3, .int p2), (4, .int p3)] → W p l e (headSpec wuX6_blend ({ frames := 1, cells := 0, slots := 0, locals := 20 })).room s m ([.ref (ad a), .int p0, .int p1, .int p2, .int p3] : List Value).toArray below meth c H locs 0 0 (MQ below (va_Qv (fun (_ : Unit) => True) (fun _ t => kE D ct ad G A y t) A) ([.ref (ad a), .int p0, .int p1, .int p2, .int p3] : List Value).toArray s 0 0 A) (F0 m 289 ls []) := by
          intro H locs ls hP hD hS hl
          obtain rfl := Option.some.inj hF
          exact W.vret hx hb hr (fun t ht hW => ⟨⟨(), rfl, trivial, ⟨by rw [ht]; exact hP, va_K.moved hW.alike hK, hD⟩⟩, hS.F ht⟩) hS.2.2 dX6_blend_289
        clear hF
        refine itr_rule (fun (s5 : Int32 × DD) => ∀ (H : Heap) (locs : List Loc) (ls : Array Slot), va_P D classes (wld ct ad G s5.2) H → va_D A (wld ct ad G s5.2) → va_S A s.heap H locs → lv_has ls 11 [(8, .int s5.1), (7, .int y3), (6, .int y2), (5, va_re ad y1), (0, .ref (ad a)), (1, .int p0), (2, .int p1), (3, .int p2), (4, .int p3)] → W p l e (headSpec wuX6_blend ({ frames := 1, cells := 0, slots := 0, locals := 20 })).room s m ([.ref (ad a), .int p0, .int p1, .int p2, .int p3] : List Value).toArray below meth c H locs 0 0 (MQ below (va_Qv (fun (_ : Unit) => True) (fun _ t => kE D ct ad G A y t) A) ([.ref (ad a), .int p0, .int p1, .int p2, .int p3] : List Value).toArray s 0 0 A) (F0 m 62 ls [])) ?_ _ _ hy4 _ _ _ hP hD hS (lv_sub hl [0, 1, 2, 3, 4, 5, 6, 7, 8] rfl)
        rintro s5 ⟨z7, hF, hwz7⟩ H locs ls hP hD hS hl
        try dsimp only at hF
        refine lv_iload hx hb dX6_blend_62 (lv_at hl 0 rfl) ?_
        refine lv_iload hx hb dX6_blend_64 (lv_at hl 8 rfl) ?_
        refine lv_icmp_ge (tgt := 289) hx hb dX6_blend_66 (by decide) (fun c8 => ?_) (fun c8 => ?_)
        · rw [if_pos c8] at hF
          obtain rfl := Option.some.inj hF
          subst hwz7
          exact K4 _ _ _ hP hD hS (lv_sub hl [0, 1, 2, 3, 4, 5, 6, 7, 8] rfl)
        · rw [if_neg c8] at hF
          refine lv_iload_n hx hb dX6_blend_69 rfl (lv_at hl 6 rfl) ?_
          refine lv_iload hx hb dX6_blend_70 (lv_at hl 0 rfl) ?_
          refine lv_iload_n hx hb dX6_blend_72 rfl (lv_at hl 7 rfl) ?_
          refine lv_imul hx hb dX6_blend_73 ?_
          obtain ⟨x9, ex9, hF⟩ := ltt_some hF
          refine lv_topi (fun zx9 ezx9 => ?_)
          obtain rfl : x9 = zx9 := ex9.trans ezx9.symm
          refine lv_iadd hx hb dX6_blend_74 ?_
          obtain ⟨x10, ex10, hF⟩ := ltt_some hF
          refine lv_topi (fun zx10 ezx10 => ?_)
          obtain rfl : x10 = zx10 := ex10.trans ezx10.symm
          refine lv_istore (lv' := [(9, .int x10), (8, .int s5.1), (7, .int y3), (6, .int y2), (5, va_re ad y1), (0, .ref (ad a)), (1, .int p0), (2, .int p1), (3, .int p2), (4, .int p3)]) hx hb dX6_blend_75 hl (by decide) rfl (fun ls hl => ?_)
          obtain ⟨y11, hy11, hF⟩ := bnd_some hF
          have K11 : ∀ (H : Heap) (locs : List Loc) (ls : Array Slot), va_P D classes (wld ct ad G y11.2) H → va_D A (wld ct ad G y11.2) → va_S A s.heap H locs → lv_has ls 11 [(9, .int y11.1), (8, .int s5.1), (7, .int y3), (6, .int y2), (5, va_re ad y1), (0, .ref (ad a)), (1, .int p0), (2, .int p1), (3, .int p2), (4, .int p3)] → W p l e (headSpec wuX6_blend ({ frames := 1, cells := 0, slots := 0, locals := 20 })).room s m ([.ref (ad a), .int p0, .int p1, .int p2, .int p3] : List Value).toArray below meth c H locs 0 0 (MQ below (va_Qv (fun (_ : Unit) => True) (fun _ t => kE D ct ad G A y t) A) ([.ref (ad a), .int p0, .int p1, .int p2, .int p3] : List Value).toArray s 0 0 A) (F0 m 283 ls []) := by
            intro H locs ls hP hD hS hl
            obtain ⟨x14, ex14, hF⟩ := ltt_some hF
            refine lv_iinc (v := x14) (lv' := [(8, .int x14), (9, .int y11.1), (7, .int y3), (6, .int y2), (5, va_re ad y1), (0, .ref (ad a)), (1, .int p0), (2, .int p1), (3, .int p2), (4, .int p3)]) hx hb dX6_blend_283 hl (k := 1) rfl (by rw [ex14]; rfl) (by decide) rfl (fun ls hl => ?_)
            refine lv_goto (tgt := 62) hx hb dX6_blend_286 (by decide) ?_
            obtain rfl := Option.some.inj hF
            exact hwz7 _ _ _ hP hD hS (lv_sub hl [0, 2, 3, 4, 5, 6, 7, 8, 9] rfl)
          clear hF
          refine itr_rule (fun (s12 : Int32 × DD) => ∀ (H : Heap) (locs : List Loc) (ls : Array Slot), va_P D classes (wld ct ad G s12.2) H → va_D A (wld ct ad G s12.2) → va_S A s.heap H locs → lv_has ls 11 [(9, .int s12.1), (8, .int s5.1), (7, .int y3), (6, .int y2), (5, va_re ad y1), (0, .ref (ad a)), (1, .int p0), (2, .int p1), (3, .int p2), (4, .int p3)] → W p l e (headSpec wuX6_blend ({ frames := 1, cells := 0, slots := 0, locals := 20 })).room s m ([.ref (ad a), .int p0, .int p1, .int p2, .int p3] : List Value).toArray below meth c H locs 0 0 (MQ below (va_Qv (fun (_ : Unit) => True) (fun _ t => kE D ct ad G A y t) A) ([.ref (ad a), .int p0, .int p1, .int p2, .int p3] : List Value).toArray s 0 0 A) (F0 m 77 ls [])) ?_ _ _ hy11 _ _ _ hP hD hS (lv_sub hl [0, 1, 2, 3, 4, 5, 6, 7, 8, 9] rfl)
          rintro s12 ⟨z15, hF, hwz15⟩ H locs ls hP hD hS hl
          try dsimp only at hF
          refine lv_iload hx hb dX6_blend_77 (lv_at hl 0 rfl) ?_
          refine lv_iload_n hx hb dX6_blend_79 rfl (lv_at hl 7 rfl) ?_
          refine lv_iload hx hb dX6_blend_80 (lv_at hl 1 rfl) ?_
          refine lv_iload_n hx hb dX6_blend_82 rfl (lv_at hl 8 rfl) ?_
          refine lv_imul hx hb dX6_blend_83 ?_
          obtain ⟨x16, ex16, hF⟩ := ltt_some hF
          refine lv_topi (fun zx16 ezx16 => ?_)
          obtain rfl : x16 = zx16 := ex16.trans ezx16.symm
          refine lv_iadd hx hb dX6_blend_84 ?_
          obtain ⟨x17, ex17, hF⟩ := ltt_some hF
          refine lv_topi (fun zx17 ezx17 => ?_)
          obtain rfl : x17 = zx17 := ex17.trans ezx17.symm
          refine lv_iload hx hb dX6_blend_85 (lv_at hl 9 rfl) ?_
          refine lv_iadd hx hb dX6_blend_87 ?_
          obtain ⟨x18, ex18, hF⟩ := ltt_some hF
          refine lv_topi (fun zx18 ezx18 => ?_)
          obtain rfl : x18 = zx18 := ex18.trans ezx18.symm
          refine lv_icmp_ge (tgt := 283) hx hb dX6_blend_88 (by decide) (fun c19 => ?_) (fun c19 => ?_)
          · rw [if_pos c19] at hF
            obtain rfl := Option.some.inj hF
            subst hwz15
            exact K11 _ _ _ hP hD hS (lv_sub hl [0, 1, 2, 3, 4, 5, 6, 7, 8, 9] rfl)
          · rw [if_neg c19] at hF
            refine lv_iload_n hx hb dX6_blend_91 rfl (lv_at hl 6 rfl) ?_
            refine lv_iconst (v := (2 : Int32)) hx hb dX6_blend_92 (by decide) ?_
            obtain ⟨y20, hy20, hF⟩ := bnd_some hF
            have J20 : ∀ (H : Heap) (locs : List Loc) (ls : Array Slot), va_P D classes (wld ct ad G y20) H → va_D A (wld ct ad G y20) → va_S A s.heap H locs → lv_has ls 11 [(9, .int s12.1), (8, .int s5.1), (7, .int y3), (6, .int y2), (5, va_re ad y1), (0, .ref (ad a)), (1, .int p0), (2, .int p1), (3, .int p2), (4, .int p3)] → W p l e (headSpec wuX6_blend ({ frames := 1, cells := 0, slots := 0, locals := 20 })).room s m ([.ref (ad a), .int p0, .int p1, .int p2, .int p3] : List Value).toArray below meth c H locs 0 0 (MQ below (va_Qv (fun (_ : Unit) => True) (fun _ t => kE D ct ad G A y t) A) ([.ref (ad a), .int p0, .int p1, .int p2, .int p3] : List Value).toArray s 0 0 A) (F0 m 277 ls []) := by
              intro H locs ls hP hD hS hl
              obtain ⟨x21, ex21, hF⟩ := ltt_some hF
              refine lv_iinc (v := x21) (lv' := [(9, .int x21), (8, .int s5.1), (7, .int y3), (6, .int y2), (5, va_re ad y1), (0, .ref (ad a)), (1, .int p0), (2, .int p1), (3, .int p2), (4, .int p3)]) hx hb dX6_blend_277 hl (k := 0) rfl (by rw [ex21]; rfl) (by decide) rfl (fun ls hl => ?_)
              refine lv_goto (tgt := 77) hx hb dX6_blend_280 (by decide) ?_
              obtain rfl := Option.some.inj hF
              exact hwz15 _ _ _ hP hD hS (lv_sub hl [0, 1, 2, 3, 4, 5, 6, 7, 8, 9] rfl)
            clear hF
            have hF := hy20
            clear hy20
            refine lv_icmp_ge (tgt := 111) hx hb dX6_blend_93 (by decide) (fun c22 => ?_) (fun c22 => ?_)
            · rw [if_pos c22] at hF
              refine lv_iload_n hx hb dX6_blend_111 rfl (lv_at hl 6 rfl) ?_
              refine lv_iconst (v := (2 : Int32)) hx hb dX6_blend_112 (by decide) ?_
              obtain ⟨y23, hy23, hF⟩ := bnd_some hF
              have J23 : ∀ (H : Heap) (locs : List Loc) (ls : Array Slot), va_P D classes (wld ct ad G y23) H → va_D A (wld ct ad G y23) → va_S A s.heap H locs → lv_has ls 11 [(9, .int s12.1), (8, .int s5.1), (7, .int y3), (6, .int y2), (5, va_re ad y1), (0, .ref (ad a)), (1, .int p0), (2, .int p1), (3, .int p2), (4, .int p3)] → W p l e (headSpec wuX6_blend ({ frames := 1, cells := 0, slots := 0, locals := 20 })).room s m ([.ref (ad a), .int p0, .int p1, .int p2, .int p3] : List Value).toArray below meth c H locs 0 0 (MQ below (va_Qv (fun (_ : Unit) => True) (fun _ t => kE D ct ad G A y t) A) ([.ref (ad a), .int p0, .int p1, .int p2, .int p3] : List Value).toArray s 0 0 A) (F0 m 277 ls []) := by
                intro H locs ls hP hD hS hl
                obtain rfl := Option.some.inj hF
                exact J20 _ _ _ hP hD hS (lv_sub hl [0, 1, 2, 3, 4, 5, 6, 7, 8, 9] rfl)
              clear hF
              have hF := hy23
              clear hy23
              refine lv_icmp_ne (tgt := 145) hx hb dX6_blend_113 (by decide) (fun c24 => ?_) (fun c24 => ?_)
              · rw [if_neg c24] at hF
                refine lv_iload_n hx hb dX6_blend_145 rfl (lv_at hl 6 rfl) ?_
                refine lv_iconst (v := (5 : Int32)) hx hb dX6_blend_146 (by decide) ?_
                obtain ⟨y25, hy25, hF⟩ := bnd_some hF
                have J25 : ∀ (H : Heap) (locs : List Loc) (ls : Array Slot), va_P D classes (wld ct ad G y25.2) H → va_D A (wld ct ad G y25.2) → va_S A s.heap H locs → lv_has ls 11 [(10, .int y25.1), (9, .int s12.1), (8, .int s5.1), (7, .int y3), (6, .int y2), (5, va_re ad y1), (0, .ref (ad a)), (1, .int p0), (2, .int p1), (3, .int p2), (4, .int p3)] → W p l e (headSpec wuX6_blend ({ frames := 1, cells := 0, slots := 0, locals := 20 })).room s m ([.ref (ad a), .int p0, .int p1, .int p2, .int p3] : List Value).toArray below meth c H locs 0 0 (MQ below (va_Qv (fun (_ : Unit) => True) (fun _ t => kE D ct ad G A y t) A) ([.ref (ad a), .int p0, .int p1, .int p2, .int p3] : List Value).toArray s 0 0 A) (F0 m 277 ls []) := by
                  intro H locs ls hP hD hS hl
                  obtain rfl := Option.some.inj hF
                  exact J23 _ _ _ hP hD hS (lv_sub hl [1, 2, 3, 4, 5, 6, 7, 8, 9, 10] rfl)
                clear hF
                have hF := hy25
                clear hy25
                refine lv_icmp_ne (tgt := 220) hx hb dX6_blend_147 (by decide) (fun c26 => ?_) (fun c26 => ?_)
                · rw [if_neg c26] at hF
                  refine lv_aload_n hx hb dX6_blend_220 rfl (lv_at hl 5 rfl) ?_
                  refine va_get (D := D) (ci := 6) (v := .int (s12.2.1 a 13)) (C := RX6) (T := TX6) (N := 14) hx hb hts (mus hf_X6) hown hK hP a (wld_o ct ad G s12.2 hc hk (by decide)) rfl 13 (by decide) (hts (.fieldLink RX6 164 "VideoSuite$Samples" "shift" "I") (mu mw_549)) (fun _ h9 => h9) rfl dX6_blend_221 ?_
                  obtain ⟨x27, ex27, hF⟩ := ltt_some hF
                  refine lv_topi (fun zx27 ezx27 => ?_)
                  obtain rfl : x27 = zx27 := ex27.trans ezx27.symm
                  obtain ⟨y28, hy28, hF⟩ := bnd_some hF
                  have J28 : ∀ (H : Heap) (locs : List Loc) (ls : Array Slot), va_P D classes (wld ct ad G s12.2) H → va_D A (wld ct ad G s12.2) → va_S A s.heap H locs → lv_has ls 11 [(9, .int s12.1), (8, .int s5.1), (7, .int y3), (6, .int y2), (5, va_re ad y1), (0, .ref (ad a)), (1, .int p0), (2, .int p1), (3, .int p2), (4, .int p3)] → W p l e (headSpec wuX6_blend ({ frames := 1, cells := 0, slots := 0, locals := 20 })).room s m ([.ref (ad a), .int p0, .int p1, .int p2, .int p3] : List Value).toArray below meth c H locs 0 0 (MQ below (va_Qv (fun (_ : Unit) => True) (fun _ t => kE D ct ad G A y t) A) ([.ref (ad a), .int p0, .int p1, .int p2, .int p3] : List Value).toArray s 0 0 A) (F0 m 260 ls [.int y28]) := by
                    intro H locs ls hP hD hS hl
                    refine lv_istore (lv' := [(10, .int y28), (9, .int s12.1), (8, .int s5.1), (7, .int y3), (6, .int y2), (5, va_re ad y1), (0, .ref (ad a)), (1, .int p0), (2, .int p1), (3, .int p2), (4, .int p3)]) hx hb dX6_blend_260 hl (by decide) rfl (fun ls hl => ?_)
                    refine lv_aload_n hx hb dX6_blend_262 rfl (lv_at hl 6 rfl) ?_
                    refine va_get (D := D) (ci := 6) (v := va_re ad (s12.2.2 a 0)) (C := RX6) (T := TX6) (N := 14) hx hb hts (mus hf_X6) hown hK hP a (wld_o ct ad G s12.2 hc hk (by decide)) rfl 0 (by decide) (hts (.fieldLink RX6 9 "VideoSuite$Samples" "guess" "[I") (mu mw_533)) (fun _ h9 => h9) rfl dX6_blend_263 ?_
                    refine lv_iload hx hb dX6_blend_266 (lv_at hl 1 rfl) ?_
                    refine lv_iload hx hb dX6_blend_268 (lv_at hl 0 rfl) ?_
                    refine lv_iload hx hb dX6_blend_270 (lv_at hl 3 rfl) ?_
                    refine lv_iadd hx hb dX6_blend_272 ?_
                    obtain ⟨x29, ex29, hF⟩ := ltt_some hF
                    refine lv_topi (fun zx29 ezx29 => ?_)
                    obtain rfl : x29 = zx29 := ex29.trans ezx29.symm
                    obtain ⟨y30, hy30, hF⟩ := bnd_some hF
                    have hf9 := wA_in hD hA9 hS
                    refine va_calli (va_runSN (As := [.int x29]) (rest := [.int s12.1, va_re ad (s12.2.2 a 0)]) ⟨hx, hb, hml, hown, hts⟩ (kX11_clip l D ct ad Z G s12.2 H.size x29 y30 hy30) ⟨va_cnB 1 hts gX6_blend_X11_clip_n172 rfl rfl rfl (hN.1 (RX6, 172, yX11_clip, RX11) (List.mem_of_getElem? (i := 19) rfl)) (hts (.initialized RX11) (mu mw_166)) (by decide +kernel) ⟨Nat.le_of_ble_eq_true rfl, Nat.le_of_ble_eq_true rfl⟩, hts (.static yX11_clip) (mu mw_998), trivial⟩ ⟨fun a U g mk q => by obtain ⟨q0, q1, qP, qK, qD, qZ, qN⟩ := q; exact ⟨q0, q1, qP, va_K.moved (u := U) (U := U.calling g mk a) (Vm.Alike.refl U.vm) qK, qD, sF.moved (u := U) (U := U.calling g mk a) (Vm.Alike.refl U.vm) qZ, nF.same rfl qN⟩, fun U hU hW => ⟨rfl, by rw [hU], by rw [hU]; exact hP, va_K.moved hW.alike hK, hD.weaken (fun _ _ _ _ => trivial), by rw [hU]; exact ((hZ.kept hS.2.1).narrow hf9).moved hW.alike, hN.warm hW⟩⟩ rfl rfl hl.1 rfl (lv_room (by simp only [List.map, va_re_cat]; exact Nat.le_of_ble_eq_true rfl)) dX6_blend_273 ⟨(Nat.zero_le _), (Nat.zero_le _)⟩) hS (fun q _ h => hf9 q h) hf9 (fun r u t H locs ht hvm hw hB hz1 hk1 hS => ?_)
                    obtain ⟨hP, hK9, hD9⟩ := hB
                    rw [ht] at hP
                    try dsimp only at hw
                    subst hw
                    have hD := hD9.weaken (fun _ q _ h => hf9 q.1 h)
                    obtain ⟨b31, ho31, hc31, hk31, hF⟩ := dr_some hF
                    refine W_st (st' := [.int y30.2, .int s12.1, .ref (ad b31)]) (by rw [va_some ho31]) ?_
                    obtain ⟨hvc, hF⟩ := chk_some hF
                    refine va_iast hx hb hK hP hD hS b31 1 (wld_i ct ad G y30.1 hc31 hk31) rfl hvc dX6_blend_276 (fun H locs hP hD hS => ?_)
                    obtain ⟨M32, eM32, hF⟩ := ltt_some hF
                    rw [set_i ct ad G y30.1 hc31 hk31, ← eM32] at hP hD
                    obtain rfl := Option.some.inj hF
                    exact J25 _ _ _ hP hD hS (lv_sub hl [0, 1, 2, 3, 4, 5, 6, 7, 8, 9, 10] rfl)
                  clear hF
                  have hF := hy28
                  clear hy28
                  refine lv_if_le (tgt := 252) hx hb dX6_blend_224 (by decide) (fun c33 => ?_) (fun c33 => ?_)
                  · rw [if_pos c33] at hF
                    refine lv_aloadq hx hb dX6_blend_252 (lv_at hl 4 rfl) ?_
                    refine lv_iload hx hb dX6_blend_254 (lv_at hl 0 rfl) ?_
                    obtain ⟨b34, ho34, hc34, hk34, hF⟩ := dr_some hF
                    refine W_st (st' := [.int s12.1, .ref (ad b34)]) (by rw [va_some ho34]) ?_
                    obtain ⟨hvc, hF⟩ := chk_some hF
                    refine va_iald hx hb hK hP b34 1 (wld_i ct ad G s12.2 hc34 hk34) rfl hvc dX6_blend_256 ?_
                    obtain ⟨x35, ex35, hF⟩ := ltt_some hF
                    refine lv_topi (fun zx35 ezx35 => ?_)
                    obtain rfl : x35 = zx35 := ex35.trans ezx35.symm
                    refine lv_iload hx hb dX6_blend_257 (lv_at hl 3 rfl) ?_
                    refine lv_imul hx hb dX6_blend_259 ?_
                    obtain ⟨x36, ex36, hF⟩ := ltt_some hF
                    refine lv_topi (fun zx36 ezx36 => ?_)
                    obtain rfl : x36 = zx36 := ex36.trans ezx36.symm
                    obtain rfl := Option.some.inj hF
                    exact J28 _ _ _ hP hD hS (lv_sub hl [0, 1, 2, 3, 4, 5, 6, 7, 8, 9] rfl)
                  · rw [if_neg c33] at hF
                    refine lv_aloadq hx hb dX6_blend_227 (lv_at hl 4 rfl) ?_
                    refine lv_iload hx hb dX6_blend_229 (lv_at hl 0 rfl) ?_
                    obtain ⟨b37, ho37, hc37, hk37, hF⟩ := dr_some hF
                    refine W_st (st' := [.int s12.1, .ref (ad b37)]) (by rw [va_some ho37]) ?_
                    obtain ⟨hvc, hF⟩ := chk_some hF
                    refine va_iald hx hb hK hP b37 1 (wld_i ct ad G s12.2 hc37 hk37) rfl hvc dX6_blend_231 ?_
                    obtain ⟨x38, ex38, hF⟩ := ltt_some hF
                    refine lv_topi (fun zx38 ezx38 => ?_)
                    obtain rfl : x38 = zx38 := ex38.trans ezx38.symm
                    refine lv_iload hx hb dX6_blend_232 (lv_at hl 3 rfl) ?_
                    refine lv_imul hx hb dX6_blend_234 ?_
                    obtain ⟨x39, ex39, hF⟩ := ltt_some hF
                    refine lv_topi (fun zx39 ezx39 => ?_)
                    obtain rfl : x39 = zx39 := ex39.trans ezx39.symm
                    refine lv_iconst (v := (1 : Int32)) hx hb dX6_blend_235 (by decide) ?_
                    refine lv_aload_n hx hb dX6_blend_236 rfl (lv_at hl 5 rfl) ?_
                    refine va_get (D := D) (ci := 6) (v := .int (s12.2.1 a 13)) (C := RX6) (T := TX6) (N := 14) hx hb hts (mus hf_X6) hown hK hP a (wld_o ct ad G s12.2 hc hk (by decide)) rfl 13 (by decide) (hts (.fieldLink RX6 164 "VideoSuite$Samples" "shift" "I") (mu mw_549)) (fun _ h9 => h9) rfl dX6_blend_237 ?_
                    obtain ⟨x40, ex40, hF⟩ := ltt_some hF
                    refine lv_topi (fun zx40 ezx40 => ?_)
                    obtain rfl : x40 = zx40 := ex40.trans ezx40.symm
                    refine lv_iconst (v := (1 : Int32)) hx hb dX6_blend_240 (by decide) ?_
                    refine lv_isub hx hb dX6_blend_241 ?_
                    obtain ⟨x41, ex41, hF⟩ := ltt_some hF
                    refine lv_topi (fun zx41 ezx41 => ?_)
                    obtain rfl : x41 = zx41 := ex41.trans ezx41.symm
                    refine lv_ishl hx hb dX6_blend_242 ?_
                    obtain ⟨x42, ex42, hF⟩ := ltt_some hF
                    refine lv_topi (fun zx42 ezx42 => ?_)
                    obtain rfl : x42 = zx42 := ex42.trans ezx42.symm
                    refine lv_iadd hx hb dX6_blend_243 ?_
                    obtain ⟨x43, ex43, hF⟩ := ltt_some hF
                    refine lv_topi (fun zx43 ezx43 => ?_)
                    obtain rfl : x43 = zx43 := ex43.trans ezx43.symm
                    refine lv_aload_n hx hb dX6_blend_244 rfl (lv_at hl 5 rfl) ?_
                    refine va_get (D := D) (ci := 6) (v := .int (s12.2.1 a 13)) (C := RX6) (T := TX6) (N := 14) hx hb hts (mus hf_X6) hown hK hP a (wld_o ct ad G s12.2 hc hk (by decide)) rfl 13 (by decide) (hts (.fieldLink RX6 164 "VideoSuite$Samples" "shift" "I") (mu mw_549)) (fun _ h9 => h9) rfl dX6_blend_245 ?_
                    obtain ⟨x44, ex44, hF⟩ := ltt_some hF
                    refine lv_topi (fun zx44 ezx44 => ?_)
                    obtain rfl : x44 = zx44 := ex44.trans ezx44.symm
                    refine lv_ishr hx hb dX6_blend_248 ?_
                    obtain ⟨x45, ex45, hF⟩ := ltt_some hF
                    refine lv_topi (fun zx45 ezx45 => ?_)
                    obtain rfl : x45 = zx45 := ex45.trans ezx45.symm
                    refine lv_goto (tgt := 260) hx hb dX6_blend_249 (by decide) ?_
                    obtain rfl := Option.some.inj hF
                    exact J28 _ _ _ hP hD hS (lv_sub hl [0, 1, 2, 3, 4, 5, 6, 7, 8, 9] rfl)
                · rw [if_pos c26] at hF
                  refine lv_aload_n hx hb dX6_blend_150 rfl (lv_at hl 5 rfl) ?_
                  refine va_get (D := D) (ci := 6) (v := va_re ad (s12.2.2 a 1)) (C := RX6) (T := TX6) (N := 14) hx hb hts (mus hf_X6) hown hK hP a (wld_o ct ad G s12.2 hc hk (by decide)) rfl 1 (by decide) (hts (.fieldLink RX6 15 "VideoSuite$Samples" "first" "[I") (mu mw_536)) (fun _ h9 => h9) rfl dX6_blend_151 ?_
                  refine lv_iload hx hb dX6_blend_154 (lv_at hl 0 rfl) ?_
                  obtain ⟨b46, ho46, hc46, hk46, hF⟩ := dr_some hF
                  refine W_st (st' := [.int s12.1, .ref (ad b46)]) (by rw [va_some ho46]) ?_
                  obtain ⟨hvc, hF⟩ := chk_some hF
                  refine va_iald hx hb hK hP b46 1 (wld_i ct ad G s12.2 hc46 hk46) rfl hvc dX6_blend_156 ?_
                  obtain ⟨x47, ex47, hF⟩ := ltt_some hF
                  refine lv_topi (fun zx47 ezx47 => ?_)
                  obtain rfl : x47 = zx47 := ex47.trans ezx47.symm
                  refine lv_aload_n hx hb dX6_blend_157 rfl (lv_at hl 5 rfl) ?_
                  refine va_get (D := D) (ci := 6) (v := .int (s12.2.1 a 9)) (C := RX6) (T := TX6) (N := 14) hx hb hts (mus hf_X6) hown hK hP a (wld_o ct ad G s12.2 hc hk (by decide)) rfl 9 (by decide) (hts (.fieldLink RX6 155 "VideoSuite$Samples" "weight" "I") (mu mw_545)) (fun _ h9 => h9) rfl dX6_blend_158 ?_
                  obtain ⟨x48, ex48, hF⟩ := ltt_some hF
                  refine lv_topi (fun zx48 ezx48 => ?_)
                  obtain rfl : x48 = zx48 := ex48.trans ezx48.symm
                  refine lv_imul hx hb dX6_blend_161 ?_
                  obtain ⟨x49, ex49, hF⟩ := ltt_some hF
                  refine lv_topi (fun zx49 ezx49 => ?_)
                  obtain rfl : x49 = zx49 := ex49.trans ezx49.symm
                  refine lv_aload_n hx hb dX6_blend_162 rfl (lv_at hl 5 rfl) ?_
                  refine va_get (D := D) (ci := 6) (v := va_re ad (s12.2.2 a 2)) (C := RX6) (T := TX6) (N := 14) hx hb hts (mus hf_X6) hown hK hP a (wld_o ct ad G s12.2 hc hk (by decide)) rfl 2 (by decide) (hts (.fieldLink RX6 18 "VideoSuite$Samples" "second" "[I") (mu mw_537)) (fun _ h9 => h9) rfl dX6_blend_163 ?_
                  refine lv_iload hx hb dX6_blend_166 (lv_at hl 0 rfl) ?_
                  obtain ⟨b50, ho50, hc50, hk50, hF⟩ := dr_some hF
                  refine W_st (st' := [.int s12.1, .ref (ad b50), .int x49]) (by rw [va_some ho50]) ?_
                  obtain ⟨hvc, hF⟩ := chk_some hF
                  refine va_iald hx hb hK hP b50 1 (wld_i ct ad G s12.2 hc50 hk50) rfl hvc dX6_blend_168 ?_
                  obtain ⟨x51, ex51, hF⟩ := ltt_some hF
                  refine lv_topi (fun zx51 ezx51 => ?_)
                  obtain rfl : x51 = zx51 := ex51.trans ezx51.symm
                  refine lv_aload_n hx hb dX6_blend_169 rfl (lv_at hl 5 rfl) ?_
                  refine va_get (D := D) (ci := 6) (v := .int (s12.2.1 a 10)) (C := RX6) (T := TX6) (N := 14) hx hb hts (mus hf_X6) hown hK hP a (wld_o ct ad G s12.2 hc hk (by decide)) rfl 10 (by decide) (hts (.fieldLink RX6 152 "VideoSuite$Samples" "otherWeight" "I") (mu mw_546)) (fun _ h9 => h9) rfl dX6_blend_170 ?_
                  obtain ⟨x52, ex52, hF⟩ := ltt_some hF
                  refine lv_topi (fun zx52 ezx52 => ?_)
                  obtain rfl : x52 = zx52 := ex52.trans ezx52.symm
                  refine lv_imul hx hb dX6_blend_173 ?_
                  obtain ⟨x53, ex53, hF⟩ := ltt_some hF
                  refine lv_topi (fun zx53 ezx53 => ?_)
                  obtain rfl : x53 = zx53 := ex53.trans ezx53.symm
                  refine lv_iadd hx hb dX6_blend_174 ?_
                  obtain ⟨x54, ex54, hF⟩ := ltt_some hF
                  refine lv_topi (fun zx54 ezx54 => ?_)
                  obtain rfl : x54 = zx54 := ex54.trans ezx54.symm
                  refine lv_iconst (v := (1 : Int32)) hx hb dX6_blend_175 (by decide) ?_
                  refine lv_aload_n hx hb dX6_blend_176 rfl (lv_at hl 5 rfl) ?_
                  refine va_get (D := D) (ci := 6) (v := .int (s12.2.1 a 13)) (C := RX6) (T := TX6) (N := 14) hx hb hts (mus hf_X6) hown hK hP a (wld_o ct ad G s12.2 hc hk (by decide)) rfl 13 (by decide) (hts (.fieldLink RX6 164 "VideoSuite$Samples" "shift" "I") (mu mw_549)) (fun _ h9 => h9) rfl dX6_blend_177 ?_
                  obtain ⟨x55, ex55, hF⟩ := ltt_some hF
                  refine lv_topi (fun zx55 ezx55 => ?_)
                  obtain rfl : x55 = zx55 := ex55.trans ezx55.symm
                  refine lv_ishl hx hb dX6_blend_180 ?_
                  obtain ⟨x56, ex56, hF⟩ := ltt_some hF
                  refine lv_topi (fun zx56 ezx56 => ?_)
                  obtain rfl : x56 = zx56 := ex56.trans ezx56.symm
                  refine lv_iadd hx hb dX6_blend_181 ?_
                  obtain ⟨x57, ex57, hF⟩ := ltt_some hF
                  refine lv_topi (fun zx57 ezx57 => ?_)
                  obtain rfl : x57 = zx57 := ex57.trans ezx57.symm
                  refine lv_istore (lv' := [(10, .int x57), (9, .int s12.1), (8, .int s5.1), (7, .int y3), (6, .int y2), (5, va_re ad y1), (0, .ref (ad a)), (1, .int p0), (2, .int p1), (3, .int p2), (4, .int p3)]) hx hb dX6_blend_182 hl (by decide) rfl (fun ls hl => ?_)
                  refine lv_aload_n hx hb dX6_blend_184 rfl (lv_at hl 6 rfl) ?_
                  refine va_get (D := D) (ci := 6) (v := va_re ad (s12.2.2 a 0)) (C := RX6) (T := TX6) (N := 14) hx hb hts (mus hf_X6) hown hK hP a (wld_o ct ad G s12.2 hc hk (by decide)) rfl 0 (by decide) (hts (.fieldLink RX6 9 "VideoSuite$Samples" "guess" "[I") (mu mw_533)) (fun _ h9 => h9) rfl dX6_blend_185 ?_
                  refine lv_iload hx hb dX6_blend_188 (lv_at hl 1 rfl) ?_
                  refine lv_iload hx hb dX6_blend_190 (lv_at hl 0 rfl) ?_
                  refine lv_aload_n hx hb dX6_blend_192 rfl (lv_at hl 6 rfl) ?_
                  refine va_get (D := D) (ci := 6) (v := .int (s12.2.1 a 13)) (C := RX6) (T := TX6) (N := 14) hx hb hts (mus hf_X6) hown hK hP a (wld_o ct ad G s12.2 hc hk (by decide)) rfl 13 (by decide) (hts (.fieldLink RX6 164 "VideoSuite$Samples" "shift" "I") (mu mw_549)) (fun _ h9 => h9) rfl dX6_blend_193 ?_
                  obtain ⟨x58, ex58, hF⟩ := ltt_some hF
                  refine lv_topi (fun zx58 ezx58 => ?_)
                  obtain rfl : x58 = zx58 := ex58.trans ezx58.symm
                  refine lv_iconst (v := (1 : Int32)) hx hb dX6_blend_196 (by decide) ?_
                  refine lv_iadd hx hb dX6_blend_197 ?_
                  obtain ⟨x59, ex59, hF⟩ := ltt_some hF
                  refine lv_topi (fun zx59 ezx59 => ?_)
                  obtain rfl : x59 = zx59 := ex59.trans ezx59.symm
                  refine lv_ishr hx hb dX6_blend_198 ?_
                  obtain ⟨x60, ex60, hF⟩ := ltt_some hF
                  refine lv_topi (fun zx60 ezx60 => ?_)
                  obtain rfl : x60 = zx60 := ex60.trans ezx60.symm
                  refine lv_aload_n hx hb dX6_blend_199 rfl (lv_at hl 6 rfl) ?_
                  refine va_get (D := D) (ci := 6) (v := .int (s12.2.1 a 11)) (C := RX6) (T := TX6) (N := 14) hx hb hts (mus hf_X6) hown hK hP a (wld_o ct ad G s12.2 hc hk (by decide)) rfl 11 (by decide) (hts (.fieldLink RX6 158 "VideoSuite$Samples" "offset" "I") (mu mw_547)) (fun _ h9 => h9) rfl dX6_blend_200 ?_
                  obtain ⟨x61, ex61, hF⟩ := ltt_some hF
                  refine lv_topi (fun zx61 ezx61 => ?_)
                  obtain rfl : x61 = zx61 := ex61.trans ezx61.symm
                  refine lv_aload_n hx hb dX6_blend_203 rfl (lv_at hl 6 rfl) ?_
                  refine va_get (D := D) (ci := 6) (v := .int (s12.2.1 a 12)) (C := RX6) (T := TX6) (N := 14) hx hb hts (mus hf_X6) hown hK hP a (wld_o ct ad G s12.2 hc hk (by decide)) rfl 12 (by decide) (hts (.fieldLink RX6 161 "VideoSuite$Samples" "otherOffset" "I") (mu mw_548)) (fun _ h9 => h9) rfl dX6_blend_204 ?_
                  obtain ⟨x62, ex62, hF⟩ := ltt_some hF
                  refine lv_topi (fun zx62 ezx62 => ?_)
                  obtain rfl : x62 = zx62 := ex62.trans ezx62.symm
                  refine lv_iadd hx hb dX6_blend_207 ?_
                  obtain ⟨x63, ex63, hF⟩ := ltt_some hF
                  refine lv_topi (fun zx63 ezx63 => ?_)
                  obtain rfl : x63 = zx63 := ex63.trans ezx63.symm
                  refine lv_iconst (v := (1 : Int32)) hx hb dX6_blend_208 (by decide) ?_
                  refine lv_iadd hx hb dX6_blend_209 ?_
                  obtain ⟨x64, ex64, hF⟩ := ltt_some hF
                  refine lv_topi (fun zx64 ezx64 => ?_)
                  obtain rfl : x64 = zx64 := ex64.trans ezx64.symm
                  refine lv_iconst (v := (1 : Int32)) hx hb dX6_blend_210 (by decide) ?_
                  refine lv_ishr hx hb dX6_blend_211 ?_
                  obtain ⟨x65, ex65, hF⟩ := ltt_some hF
                  refine lv_topi (fun zx65 ezx65 => ?_)
                  obtain rfl : x65 = zx65 := ex65.trans ezx65.symm
                  refine lv_iadd hx hb dX6_blend_212 ?_
                  obtain ⟨x66, ex66, hF⟩ := ltt_some hF
                  refine lv_topi (fun zx66 ezx66 => ?_)
                  obtain rfl : x66 = zx66 := ex66.trans ezx66.symm
                  obtain ⟨y67, hy67, hF⟩ := bnd_some hF
                  have hf9 := wA_in hD hA9 hS
                  refine va_calli (va_runSN (As := [.int x66]) (rest := [.int s12.1, va_re ad (s12.2.2 a 0)]) ⟨hx, hb, hml, hown, hts⟩ (kX11_clip l D ct ad Z G s12.2 H.size x66 y67 hy67) ⟨va_cnB 1 hts gX6_blend_X11_clip_n172 rfl rfl rfl (hN.1 (RX6, 172, yX11_clip, RX11) (List.mem_of_getElem? (i := 19) rfl)) (hts (.initialized RX11) (mu mw_166)) (by decide +kernel) ⟨Nat.le_of_ble_eq_true rfl, Nat.le_of_ble_eq_true rfl⟩, hts (.static yX11_clip) (mu mw_998), trivial⟩ ⟨fun a U g mk q => by obtain ⟨q0, q1, qP, qK, qD, qZ, qN⟩ := q; exact ⟨q0, q1, qP, va_K.moved (u := U) (U := U.calling g mk a) (Vm.Alike.refl U.vm) qK, qD, sF.moved (u := U) (U := U.calling g mk a) (Vm.Alike.refl U.vm) qZ, nF.same rfl qN⟩, fun U hU hW => ⟨rfl, by rw [hU], by rw [hU]; exact hP, va_K.moved hW.alike hK, hD.weaken (fun _ _ _ _ => trivial), by rw [hU]; exact ((hZ.kept hS.2.1).narrow hf9).moved hW.alike, hN.warm hW⟩⟩ rfl rfl hl.1 rfl (lv_room (by simp only [List.map, va_re_cat]; exact Nat.le_of_ble_eq_true rfl)) dX6_blend_213 ⟨(Nat.zero_le _), (Nat.zero_le _)⟩) hS (fun q _ h => hf9 q h) hf9 (fun r u t H locs ht hvm hw hB hz1 hk1 hS => ?_)
                  obtain ⟨hP, hK9, hD9⟩ := hB
                  rw [ht] at hP
                  try dsimp only at hw
                  subst hw
                  have hD := hD9.weaken (fun _ q _ h => hf9 q.1 h)
                  obtain ⟨b68, ho68, hc68, hk68, hF⟩ := dr_some hF
                  refine W_st (st' := [.int y67.2, .int s12.1, .ref (ad b68)]) (by rw [va_some ho68]) ?_
                  obtain ⟨hvc, hF⟩ := chk_some hF
                  refine va_iast hx hb hK hP hD hS b68 1 (wld_i ct ad G y67.1 hc68 hk68) rfl hvc dX6_blend_216 (fun H locs hP hD hS => ?_)
                  obtain ⟨M69, eM69, hF⟩ := ltt_some hF
                  rw [set_i ct ad G y67.1 hc68 hk68, ← eM69] at hP hD
                  refine lv_goto (tgt := 277) hx hb dX6_blend_217 (by decide) ?_
                  obtain rfl := Option.some.inj hF
                  exact J25 _ _ _ hP hD hS (lv_sub hl [0, 1, 2, 3, 4, 5, 6, 7, 8, 9, 10] rfl)
              · rw [if_pos c24] at hF
                refine lv_aload_n hx hb dX6_blend_116 rfl (lv_at hl 5 rfl) ?_
                refine va_get (D := D) (ci := 6) (v := va_re ad (s12.2.2 a 0)) (C := RX6) (T := TX6) (N := 14) hx hb hts (mus hf_X6) hown hK hP a (wld_o ct ad G s12.2 hc hk (by decide)) rfl 0 (by decide) (hts (.fieldLink RX6 9 "VideoSuite$Samples" "guess" "[I") (mu mw_533)) (fun _ h9 => h9) rfl dX6_blend_117 ?_
                refine lv_iload hx hb dX6_blend_120 (lv_at hl 0 rfl) ?_
                refine lv_aload_n hx hb dX6_blend_122 rfl (lv_at hl 5 rfl) ?_
                refine va_get (D := D) (ci := 6) (v := va_re ad (s12.2.2 a 1)) (C := RX6) (T := TX6) (N := 14) hx hb hts (mus hf_X6) hown hK hP a (wld_o ct ad G s12.2 hc hk (by decide)) rfl 1 (by decide) (hts (.fieldLink RX6 15 "VideoSuite$Samples" "first" "[I") (mu mw_536)) (fun _ h9 => h9) rfl dX6_blend_123 ?_
                refine lv_iload hx hb dX6_blend_126 (lv_at hl 0 rfl) ?_
                obtain ⟨b70, ho70, hc70, hk70, hF⟩ := dr_some hF
                refine W_st (st' := [.int s12.1, .ref (ad b70), .int s12.1, va_re ad (s12.2.2 a 0)]) (by rw [va_some ho70]) ?_
                obtain ⟨hvc, hF⟩ := chk_some hF
                refine va_iald hx hb hK hP b70 1 (wld_i ct ad G s12.2 hc70 hk70) rfl hvc dX6_blend_128 ?_
                obtain ⟨x71, ex71, hF⟩ := ltt_some hF
                refine lv_topi (fun zx71 ezx71 => ?_)
                obtain rfl : x71 = zx71 := ex71.trans ezx71.symm
                refine lv_aload_n hx hb dX6_blend_129 rfl (lv_at hl 5 rfl) ?_
                refine va_get (D := D) (ci := 6) (v := va_re ad (s12.2.2 a 2)) (C := RX6) (T := TX6) (N := 14) hx hb hts (mus hf_X6) hown hK hP a (wld_o ct ad G s12.2 hc hk (by decide)) rfl 2 (by decide) (hts (.fieldLink RX6 18 "VideoSuite$Samples" "second" "[I") (mu mw_537)) (fun _ h9 => h9) rfl dX6_blend_130 ?_
                refine lv_iload hx hb dX6_blend_133 (lv_at hl 0 rfl) ?_
                obtain ⟨b72, ho72, hc72, hk72, hF⟩ := dr_some hF
                refine W_st (st' := [.int s12.1, .ref (ad b72), .int x71, .int s12.1, va_re ad (s12.2.2 a 0)]) (by rw [va_some ho72]) ?_
                obtain ⟨hvc, hF⟩ := chk_some hF
                refine va_iald hx hb hK hP b72 1 (wld_i ct ad G s12.2 hc72 hk72) rfl hvc dX6_blend_135 ?_
                obtain ⟨x73, ex73, hF⟩ := ltt_some hF
                refine lv_topi (fun zx73 ezx73 => ?_)
                obtain rfl : x73 = zx73 := ex73.trans ezx73.symm
                refine lv_iadd hx hb dX6_blend_136 ?_
                obtain ⟨x74, ex74, hF⟩ := ltt_some hF
                refine lv_topi (fun zx74 ezx74 => ?_)
                obtain rfl : x74 = zx74 := ex74.trans ezx74.symm
                refine lv_iconst (v := (1 : Int32)) hx hb dX6_blend_137 (by decide) ?_
                refine lv_iadd hx hb dX6_blend_138 ?_
                obtain ⟨x75, ex75, hF⟩ := ltt_some hF
                refine lv_topi (fun zx75 ezx75 => ?_)
                obtain rfl : x75 = zx75 := ex75.trans ezx75.symm
                refine lv_iconst (v := (1 : Int32)) hx hb dX6_blend_139 (by decide) ?_
                refine lv_ishr hx hb dX6_blend_140 ?_
                obtain ⟨x76, ex76, hF⟩ := ltt_some hF
                refine lv_topi (fun zx76 ezx76 => ?_)
                obtain rfl : x76 = zx76 := ex76.trans ezx76.symm
                obtain ⟨b77, ho77, hc77, hk77, hF⟩ := dr_some hF
                refine W_st (st' := [.int x76, .int s12.1, .ref (ad b77)]) (by rw [va_some ho77]) ?_
                obtain ⟨hvc, hF⟩ := chk_some hF
                refine va_iast hx hb hK hP hD hS b77 1 (wld_i ct ad G s12.2 hc77 hk77) rfl hvc dX6_blend_141 (fun H locs hP hD hS => ?_)
                obtain ⟨M78, eM78, hF⟩ := ltt_some hF
                rw [set_i ct ad G s12.2 hc77 hk77, ← eM78] at hP hD
                refine lv_goto (tgt := 277) hx hb dX6_blend_142 (by decide) ?_
                obtain rfl := Option.some.inj hF
                exact J23 _ _ _ hP hD hS (lv_sub hl [0, 1, 2, 3, 4, 5, 6, 7, 8, 9] rfl)
            · rw [if_neg c22] at hF
              refine lv_aload_n hx hb dX6_blend_96 rfl (lv_at hl 5 rfl) ?_
              refine va_get (D := D) (ci := 6) (v := va_re ad (s12.2.2 a 0)) (C := RX6) (T := TX6) (N := 14) hx hb hts (mus hf_X6) hown hK hP a (wld_o ct ad G s12.2 hc hk (by decide)) rfl 0 (by decide) (hts (.fieldLink RX6 9 "VideoSuite$Samples" "guess" "[I") (mu mw_533)) (fun _ h9 => h9) rfl dX6_blend_97 ?_
              refine lv_iload hx hb dX6_blend_100 (lv_at hl 0 rfl) ?_
              refine lv_aloadq hx hb dX6_blend_102 (lv_at hl 4 rfl) ?_
              refine lv_iload hx hb dX6_blend_104 (lv_at hl 0 rfl) ?_
              obtain ⟨b79, ho79, hc79, hk79, hF⟩ := dr_some hF
              refine W_st (st' := [.int s12.1, .ref (ad b79), .int s12.1, va_re ad (s12.2.2 a 0)]) (by rw [va_some ho79]) ?_
              obtain ⟨hvc, hF⟩ := chk_some hF
              refine va_iald hx hb hK hP b79 1 (wld_i ct ad G s12.2 hc79 hk79) rfl hvc dX6_blend_106 ?_
              obtain ⟨x80, ex80, hF⟩ := ltt_some hF
              refine lv_topi (fun zx80 ezx80 => ?_)
              obtain rfl : x80 = zx80 := ex80.trans ezx80.symm
              obtain ⟨b81, ho81, hc81, hk81, hF⟩ := dr_some hF
              refine W_st (st' := [.int x80, .int s12.1, .ref (ad b81)]) (by rw [va_some ho81]) ?_
              obtain ⟨hvc, hF⟩ := chk_some hF
              refine va_iast hx hb hK hP hD hS b81 1 (wld_i ct ad G s12.2 hc81 hk81) rfl hvc dX6_blend_107 (fun H locs hP hD hS => ?_)
              obtain ⟨M82, eM82, hF⟩ := ltt_some hF
              rw [set_i ct ad G s12.2 hc81 hk81, ← eM82] at hP hD
              refine lv_goto (tgt := 277) hx hb dX6_blend_108 (by decide) ?_
              obtain rfl := Option.some.inj hF
              exact J20 _ _ _ hP hD hS (lv_sub hl [0, 1, 2, 3, 4, 5, 6, 7, 8, 9] rfl)
      clear hF
      have hF := hy3
      clear hy3
      refine lv_icmp_ne (tgt := 53) hx hb dX6_blend_43 (by decide) (fun c83 => ?_) (fun c83 => ?_)
      · rw [if_neg c83] at hF
        refine lv_aload_n hx hb dX6_blend_53 rfl (lv_at hl 2 rfl) ?_
        refine va_get (D := D) (ci := 6) (v := .int (M.1 a 11)) (C := RX6) (T := TX6) (N := 14) hx hb hts (mus hf_X6) hown hK hP a (wld_o ct ad G M hc hk (by decide)) rfl 11 (by decide) (hts (.fieldLink RX6 158 "VideoSuite$Samples" "offset" "I") (mu mw_547)) (fun _ h9 => h9) rfl dX6_blend_54 ?_
        obtain ⟨x84, ex84, hF⟩ := ltt_some hF
        refine lv_topi (fun zx84 ezx84 => ?_)
        obtain rfl : x84 = zx84 := ex84.trans ezx84.symm
        obtain rfl := Option.some.inj hF
        exact J3 _ _ _ hP hD hS (lv_sub hl [0, 1, 2, 3, 4, 5, 6] rfl)
      · rw [if_pos c83] at hF
        refine lv_aload_n hx hb dX6_blend_46 rfl (lv_at hl 2 rfl) ?_
        refine va_get (D := D) (ci := 6) (v := .int (M.1 a 12)) (C := RX6) (T := TX6) (N := 14) hx hb hts (mus hf_X6) hown hK hP a (wld_o ct ad G M hc hk (by decide)) rfl 12 (by decide) (hts (.fieldLink RX6 161 "VideoSuite$Samples" "otherOffset" "I") (mu mw_548)) (fun _ h9 => h9) rfl dX6_blend_47 ?_
        obtain ⟨x85, ex85, hF⟩ := ltt_some hF
        refine lv_topi (fun zx85 ezx85 => ?_)
        obtain rfl : x85 = zx85 := ex85.trans ezx85.symm
        refine lv_goto (tgt := 57) hx hb dX6_blend_50 (by decide) ?_
        obtain rfl := Option.some.inj hF
        exact J3 _ _ _ hP hD hS (lv_sub hl [0, 1, 2, 3, 4, 5, 6] rfl)
    clear hF
    have hF := hy2
    clear hy2
    refine lv_icmp_ne (tgt := 35) hx hb dX6_blend_25 (by decide) (fun c86 => ?_) (fun c86 => ?_)
    · rw [if_neg c86] at hF
      refine lv_aload_n hx hb dX6_blend_35 rfl (lv_at hl 1 rfl) ?_
      refine va_get (D := D) (ci := 6) (v := .int (M.1 a 9)) (C := RX6) (T := TX6) (N := 14) hx hb hts (mus hf_X6) hown hK hP a (wld_o ct ad G M hc hk (by decide)) rfl 9 (by decide) (hts (.fieldLink RX6 155 "VideoSuite$Samples" "weight" "I") (mu mw_545)) (fun _ h9 => h9) rfl dX6_blend_36 ?_
      obtain ⟨x87, ex87, hF⟩ := ltt_some hF
      refine lv_topi (fun zx87 ezx87 => ?_)
      obtain rfl : x87 = zx87 := ex87.trans ezx87.symm
      obtain rfl := Option.some.inj hF
      exact J2 _ _ _ hP hD hS (lv_sub hl [0, 1, 2, 3, 4, 5] rfl)
    · rw [if_pos c86] at hF
      refine lv_aload_n hx hb dX6_blend_28 rfl (lv_at hl 1 rfl) ?_
      refine va_get (D := D) (ci := 6) (v := .int (M.1 a 10)) (C := RX6) (T := TX6) (N := 14) hx hb hts (mus hf_X6) hown hK hP a (wld_o ct ad G M hc hk (by decide)) rfl 10 (by decide) (hts (.fieldLink RX6 152 "VideoSuite$Samples" "otherWeight" "I") (mu mw_546)) (fun _ h9 => h9) rfl dX6_blend_29 ?_
      obtain ⟨x88, ex88, hF⟩ := ltt_some hF
      refine lv_topi (fun zx88 ezx88 => ?_)
      obtain rfl : x88 = zx88 := ex88.trans ezx88.symm
      refine lv_goto (tgt := 39) hx hb dX6_blend_32 (by decide) ?_
      obtain rfl := Option.some.inj hF
      exact J2 _ _ _ hP hD hS (lv_sub hl [0, 1, 2, 3, 4, 5] rfl)
  clear hF
  have hF := hy1
  clear hy1
  refine lv_icmp_eq (tgt := 10) hx hb dX6_blend_2 (by decide) (fun c89 => ?_) (fun c89 => ?_)
  · rw [if_pos c89] at hF
    refine lv_aload_n hx hb dX6_blend_10 rfl (lv_at hl 0 rfl) ?_
    refine va_get (D := D) (ci := 6) (v := va_re ad (M.2 a 2)) (C := RX6) (T := TX6) (N := 14) hx hb hts (mus hf_X6) hown hK hP a (wld_o ct ad G M hc hk (by decide)) rfl 2 (by decide) (hts (.fieldLink RX6 18 "VideoSuite$Samples" "second" "[I") (mu mw_537)) (fun _ h9 => h9) rfl dX6_blend_11 ?_
    refine lv_goto (tgt := 21) hx hb dX6_blend_14 (by decide) ?_
    obtain rfl := Option.some.inj hF
    exact J1 _ _ _ hP hD hS (lv_sub hl [0, 1, 2, 3, 4] rfl)
  · rw [if_neg c89] at hF
    refine lv_iload_n hx hb dX6_blend_5 rfl (lv_at hl 1 rfl) ?_
    refine lv_iconst (v := (4 : Int32)) hx hb dX6_blend_6 (by decide) ?_
    obtain ⟨y90, hy90, hF⟩ := bnd_some hF
    have J90 : ∀ (H : Heap) (locs : List Loc) (ls : Array Slot), va_P D classes (wld ct ad G M) H → va_D A (wld ct ad G M) → va_S A s.heap H locs → lv_has ls 11 [(0, .ref (ad a)), (1, .int p0), (2, .int p1), (3, .int p2), (4, .int p3)] → W p l e (headSpec wuX6_blend ({ frames := 1, cells := 0, slots := 0, locals := 20 })).room s m ([.ref (ad a), .int p0, .int p1, .int p2, .int p3] : List Value).toArray below meth c H locs 0 0 (MQ below (va_Qv (fun (_ : Unit) => True) (fun _ t => kE D ct ad G A y t) A) ([.ref (ad a), .int p0, .int p1, .int p2, .int p3] : List Value).toArray s 0 0 A) (F0 m 21 ls [va_re ad y90]) := by
      intro H locs ls hP hD hS hl
      obtain rfl := Option.some.inj hF
      exact J1 _ _ _ hP hD hS (lv_sub hl [0, 1, 2, 3, 4] rfl)
    clear hF
    have hF := hy90
    clear hy90
    refine lv_icmp_ne (tgt := 17) hx hb dX6_blend_7 (by decide) (fun c91 => ?_) (fun c91 => ?_)
    · rw [if_neg c91] at hF
      refine lv_aload_n hx hb dX6_blend_17 rfl (lv_at hl 0 rfl) ?_
      refine va_get (D := D) (ci := 6) (v := va_re ad (M.2 a 1)) (C := RX6) (T := TX6) (N := 14) hx hb hts (mus hf_X6) hown hK hP a (wld_o ct ad G M hc hk (by decide)) rfl 1 (by decide) (hts (.fieldLink RX6 15 "VideoSuite$Samples" "first" "[I") (mu mw_536)) (fun _ h9 => h9) rfl dX6_blend_18 ?_
      obtain rfl := Option.some.inj hF
      exact J90 _ _ _ hP hD hS (lv_sub hl [0, 1, 2, 3, 4] rfl)
    · rw [if_pos c91] at hF
      refine lv_aload_n hx hb dX6_blend_10 rfl (lv_at hl 0 rfl) ?_
      refine va_get (D := D) (ci := 6) (v := va_re ad (M.2 a 2)) (C := RX6) (T := TX6) (N := 14) hx hb hts (mus hf_X6) hown hK hP a (wld_o ct ad G M hc hk (by decide)) rfl 2 (by decide) (hts (.fieldLink RX6 18 "VideoSuite$Samples" "second" "[I") (mu mw_537)) (fun _ h9 => h9) rfl dX6_blend_11 ?_
      refine lv_goto (tgt := 21) hx hb dX6_blend_14 (by decide) ?_
      obtain rfl := Option.some.inj hF
      exact J90 _ _ _ hP hD hS (lv_sub hl [0, 1, 2, 3, 4] rfl)
