theorem ggX4_movesApart_X4_farApart : GoodIn wsX4_movesApart wsX4_farApart := goodIn_r _ [6, 7, 8, 9, 10, 11, 12, 13, 14, 15, 16, 17, 18, 19, 20, 21, 22, 23, 24, 25] (by decide +kernel) (by decide +kernel)
set_option maxRecDepth 20000 in
theorem gX4_movesApart_X4_farApart : GoodIn wsX4_movesApart (wsV RX4 97 RX4 yX4_farApart wsX4_farApart) := goodIn_app (goodIn_of _ (by decide +kernel)) ggX4_movesApart_X4_farApart
theorem dX4_movesApart_0 : decode cX4_movesApart 0 = .ok (.aload_n 0, 1) := by decide +kernel
theorem dX4_movesApart_1 : decode cX4_movesApart 1 = .ok (.getfield 23, 3) := by decide +kernel
theorem dX4_movesApart_4 : decode cX4_movesApart 4 = .ok (.iload_n 1, 1) := by decide +kernel
theorem dX4_movesApart_5 : decode cX4_movesApart 5 = .ok (.iaload, 1) := by decide +kernel
theorem dX4_movesApart_6 : decode cX4_movesApart 6 = .ok (.istore_n 3, 1) := by decide +kernel
theorem dX4_movesApart_7 : decode cX4_movesApart 7 = .ok (.aload_n 0, 1) := by decide +kernel
theorem dX4_movesApart_8 : decode cX4_movesApart 8 = .ok (.getfield 23, 3) := by decide +kernel
theorem dX4_movesApart_11 : decode cX4_movesApart 11 = .ok (.sipush 512, 3) := by decide +kernel
theorem dX4_movesApart_14 : decode cX4_movesApart 14 = .ok (.iload_n 1, 1) := by decide +kernel
theorem dX4_movesApart_15 : decode cX4_movesApart 15 = .ok (.iadd, 1) := by decide +kernel
theorem dX4_movesApart_16 : decode cX4_movesApart 16 = .ok (.iaload, 1) := by decide +kernel
theorem dX4_movesApart_17 : decode cX4_movesApart 17 = .ok (.istore 4, 2) := by decide +kernel
theorem dX4_movesApart_19 : decode cX4_movesApart 19 = .ok (.aload_n 0, 1) := by decide +kernel
theorem dX4_movesApart_20 : decode cX4_movesApart 20 = .ok (.getfield 23, 3) := by decide +kernel
theorem dX4_movesApart_23 : decode cX4_movesApart 23 = .ok (.iload_n 2, 1) := by decide +kernel
theorem dX4_movesApart_24 : decode cX4_movesApart 24 = .ok (.iaload, 1) := by decide +kernel
theorem dX4_movesApart_25 : decode cX4_movesApart 25 = .ok (.istore 5, 2) := by decide +kernel
theorem dX4_movesApart_27 : decode cX4_movesApart 27 = .ok (.aload_n 0, 1) := by decide +kernel
theorem dX4_movesApart_28 : decode cX4_movesApart 28 = .ok (.getfield 23, 3) := by decide +kernel
theorem dX4_movesApart_31 : decode cX4_movesApart 31 = .ok (.sipush 512, 3) := by decide +kernel
theorem dX4_movesApart_34 : decode cX4_movesApart 34 = .ok (.iload_n 2, 1) := by decide +kernel
theorem dX4_movesApart_35 : decode cX4_movesApart 35 = .ok (.iadd, 1) := by decide +kernel
theorem dX4_movesApart_36 : decode cX4_movesApart 36 = .ok (.iaload, 1) := by decide +kernel
theorem dX4_movesApart_37 : decode cX4_movesApart 37 = .ok (.istore 6, 2) := by decide +kernel
theorem dX4_movesApart_39 : decode cX4_movesApart 39 = .ok (.iload_n 3, 1) := by decide +kernel
theorem dX4_movesApart_40 : decode cX4_movesApart 40 = .ok (.iload 5, 2) := by decide +kernel
theorem dX4_movesApart_42 : decode cX4_movesApart 42 = .ok (.if_icmp .ne 14, 3) := by decide +kernel
theorem dX4_movesApart_45 : decode cX4_movesApart 45 = .ok (.iload 4, 2) := by decide +kernel
theorem dX4_movesApart_47 : decode cX4_movesApart 47 = .ok (.iload 6, 2) := by decide +kernel
theorem dX4_movesApart_49 : decode cX4_movesApart 49 = .ok (.if_icmp .ne 7, 3) := by decide +kernel
theorem dX4_movesApart_52 : decode cX4_movesApart 52 = .ok (.iconst 1, 1) := by decide +kernel
theorem dX4_movesApart_53 : decode cX4_movesApart 53 = .ok (.goto 4, 3) := by decide +kernel
theorem dX4_movesApart_56 : decode cX4_movesApart 56 = .ok (.iconst 0, 1) := by decide +kernel
theorem dX4_movesApart_57 : decode cX4_movesApart 57 = .ok (.istore 7, 2) := by decide +kernel
theorem dX4_movesApart_59 : decode cX4_movesApart 59 = .ok (.iload_n 3, 1) := by decide +kernel
theorem dX4_movesApart_60 : decode cX4_movesApart 60 = .ok (.iload 6, 2) := by decide +kernel
theorem dX4_movesApart_62 : decode cX4_movesApart 62 = .ok (.if_icmp .ne 14, 3) := by decide +kernel
theorem dX4_movesApart_65 : decode cX4_movesApart 65 = .ok (.iload 4, 2) := by decide +kernel
theorem dX4_movesApart_67 : decode cX4_movesApart 67 = .ok (.iload 5, 2) := by decide +kernel
theorem dX4_movesApart_69 : decode cX4_movesApart 69 = .ok (.if_icmp .ne 7, 3) := by decide +kernel
theorem dX4_movesApart_72 : decode cX4_movesApart 72 = .ok (.iconst 1, 1) := by decide +kernel
theorem dX4_movesApart_73 : decode cX4_movesApart 73 = .ok (.goto 4, 3) := by decide +kernel
theorem dX4_movesApart_76 : decode cX4_movesApart 76 = .ok (.iconst 0, 1) := by decide +kernel
theorem dX4_movesApart_77 : decode cX4_movesApart 77 = .ok (.istore 8, 2) := by decide +kernel
theorem dX4_movesApart_79 : decode cX4_movesApart 79 = .ok (.iload_n 3, 1) := by decide +kernel
theorem dX4_movesApart_80 : decode cX4_movesApart 80 = .ok (.ifCond .eq 12, 3) := by decide +kernel
theorem dX4_movesApart_83 : decode cX4_movesApart 83 = .ok (.aload_n 0, 1) := by decide +kernel
theorem dX4_movesApart_84 : decode cX4_movesApart 84 = .ok (.iload_n 1, 1) := by decide +kernel
theorem dX4_movesApart_85 : decode cX4_movesApart 85 = .ok (.iload_n 2, 1) := by decide +kernel
theorem dX4_movesApart_86 : decode cX4_movesApart 86 = .ok (.invokevirtual 97, 3) := by decide +kernel
theorem dX4_movesApart_89 : decode cX4_movesApart 89 = .ok (.ifCond .ne 25, 3) := by decide +kernel
theorem dX4_movesApart_92 : decode cX4_movesApart 92 = .ok (.iload 4, 2) := by decide +kernel
theorem dX4_movesApart_94 : decode cX4_movesApart 94 = .ok (.ifCond .eq 24, 3) := by decide +kernel
theorem dX4_movesApart_97 : decode cX4_movesApart 97 = .ok (.aload_n 0, 1) := by decide +kernel
theorem dX4_movesApart_98 : decode cX4_movesApart 98 = .ok (.sipush 512, 3) := by decide +kernel
theorem dX4_movesApart_101 : decode cX4_movesApart 101 = .ok (.iload_n 1, 1) := by decide +kernel
theorem dX4_movesApart_102 : decode cX4_movesApart 102 = .ok (.iadd, 1) := by decide +kernel
theorem dX4_movesApart_103 : decode cX4_movesApart 103 = .ok (.sipush 512, 3) := by decide +kernel
theorem dX4_movesApart_106 : decode cX4_movesApart 106 = .ok (.iload_n 2, 1) := by decide +kernel
theorem dX4_movesApart_107 : decode cX4_movesApart 107 = .ok (.iadd, 1) := by decide +kernel
theorem dX4_movesApart_108 : decode cX4_movesApart 108 = .ok (.invokevirtual 97, 3) := by decide +kernel
theorem dX4_movesApart_111 : decode cX4_movesApart 111 = .ok (.ifCond .eq 7, 3) := by decide +kernel
theorem dX4_movesApart_114 : decode cX4_movesApart 114 = .ok (.iconst 1, 1) := by decide +kernel
theorem dX4_movesApart_115 : decode cX4_movesApart 115 = .ok (.goto 4, 3) := by decide +kernel
theorem dX4_movesApart_118 : decode cX4_movesApart 118 = .ok (.iconst 0, 1) := by decide +kernel
theorem dX4_movesApart_119 : decode cX4_movesApart 119 = .ok (.istore 9, 2) := by decide +kernel
theorem dX4_movesApart_121 : decode cX4_movesApart 121 = .ok (.iload_n 3, 1) := by decide +kernel
theorem dX4_movesApart_122 : decode cX4_movesApart 122 = .ok (.ifCond .eq 16, 3) := by decide +kernel
theorem dX4_movesApart_125 : decode cX4_movesApart 125 = .ok (.aload_n 0, 1) := by decide +kernel
theorem dX4_movesApart_126 : decode cX4_movesApart 126 = .ok (.iload_n 1, 1) := by decide +kernel
theorem dX4_movesApart_127 : decode cX4_movesApart 127 = .ok (.sipush 512, 3) := by decide +kernel
theorem dX4_movesApart_130 : decode cX4_movesApart 130 = .ok (.iload_n 2, 1) := by decide +kernel
theorem dX4_movesApart_131 : decode cX4_movesApart 131 = .ok (.iadd, 1) := by decide +kernel
theorem dX4_movesApart_132 : decode cX4_movesApart 132 = .ok (.invokevirtual 97, 3) := by decide +kernel
theorem dX4_movesApart_135 : decode cX4_movesApart 135 = .ok (.ifCond .ne 21, 3) := by decide +kernel
theorem dX4_movesApart_138 : decode cX4_movesApart 138 = .ok (.iload 4, 2) := by decide +kernel
theorem dX4_movesApart_140 : decode cX4_movesApart 140 = .ok (.ifCond .eq 20, 3) := by decide +kernel
theorem dX4_movesApart_143 : decode cX4_movesApart 143 = .ok (.aload_n 0, 1) := by decide +kernel
theorem dX4_movesApart_144 : decode cX4_movesApart 144 = .ok (.sipush 512, 3) := by decide +kernel
theorem dX4_movesApart_147 : decode cX4_movesApart 147 = .ok (.iload_n 1, 1) := by decide +kernel
theorem dX4_movesApart_148 : decode cX4_movesApart 148 = .ok (.iadd, 1) := by decide +kernel
theorem dX4_movesApart_149 : decode cX4_movesApart 149 = .ok (.iload_n 2, 1) := by decide +kernel
theorem dX4_movesApart_150 : decode cX4_movesApart 150 = .ok (.invokevirtual 97, 3) := by decide +kernel
theorem dX4_movesApart_153 : decode cX4_movesApart 153 = .ok (.ifCond .eq 7, 3) := by decide +kernel
theorem dX4_movesApart_156 : decode cX4_movesApart 156 = .ok (.iconst 1, 1) := by decide +kernel
theorem dX4_movesApart_157 : decode cX4_movesApart 157 = .ok (.goto 4, 3) := by decide +kernel
theorem dX4_movesApart_160 : decode cX4_movesApart 160 = .ok (.iconst 0, 1) := by decide +kernel
theorem dX4_movesApart_161 : decode cX4_movesApart 161 = .ok (.istore 10, 2) := by decide +kernel
theorem dX4_movesApart_163 : decode cX4_movesApart 163 = .ok (.iload 7, 2) := by decide +kernel
theorem dX4_movesApart_165 : decode cX4_movesApart 165 = .ok (.ifCond .eq 8, 3) := by decide +kernel
theorem dX4_movesApart_168 : decode cX4_movesApart 168 = .ok (.iload 9, 2) := by decide +kernel
theorem dX4_movesApart_170 : decode cX4_movesApart 170 = .ok (.ifCond .eq 17, 3) := by decide +kernel
theorem dX4_movesApart_173 : decode cX4_movesApart 173 = .ok (.iload 8, 2) := by decide +kernel
theorem dX4_movesApart_175 : decode cX4_movesApart 175 = .ok (.ifCond .eq 8, 3) := by decide +kernel
theorem dX4_movesApart_178 : decode cX4_movesApart 178 = .ok (.iload 10, 2) := by decide +kernel
theorem dX4_movesApart_180 : decode cX4_movesApart 180 = .ok (.ifCond .eq 7, 3) := by decide +kernel
theorem dX4_movesApart_183 : decode cX4_movesApart 183 = .ok (.iconst 1, 1) := by decide +kernel
theorem dX4_movesApart_184 : decode cX4_movesApart 184 = .ok (.goto 4, 3) := by decide +kernel
theorem dX4_movesApart_187 : decode cX4_movesApart 187 = .ok (.iconst 0, 1) := by decide +kernel
theorem dX4_movesApart_188 : decode cX4_movesApart 188 = .ok (.ireturn, 1) := by decide +kernel
def FX4_movesApart (G : GG) (M : DD) (a : Nat) (p0 : Int32) (p1 : Int32) : Option (DD × Int32) :=
  dr G 13 ((M.2 a 6)) fun b2 =>
  chk (¬ (p0 < 0 ∨ G.2.2 b2 ≤ p0.toNatClampNeg)) <|
  ltt (M.1 b2 p0.toNatClampNeg) fun x3 =>
  ltt ((((512 : Int32)) + p0)) fun x4 =>
  chk (¬ (x4 < 0 ∨ G.2.2 b2 ≤ x4.toNatClampNeg)) <|
  ltt (M.1 b2 x4.toNatClampNeg) fun x5 =>
  chk (¬ (p1 < 0 ∨ G.2.2 b2 ≤ p1.toNatClampNeg)) <|
  ltt (M.1 b2 p1.toNatClampNeg) fun x6 =>
  ltt ((((512 : Int32)) + p1)) fun x7 =>
  chk (¬ (x7 < 0 ∨ G.2.2 b2 ≤ x7.toNatClampNeg)) <|
  ltt (M.1 b2 x7.toNatClampNeg) fun x8 =>
  bnd (if x3 = x6 then (bnd (if x5 = x8 then (some ((1 : Int32))) else
  (some ((0 : Int32)))) fun (y64 : Int32) =>
  some (y64)) else
  (some ((0 : Int32)))) fun (y9 : Int32) =>
  bnd (if x3 = x8 then (bnd (if x5 = x6 then (some ((1 : Int32))) else
  (some ((0 : Int32)))) fun (y61 : Int32) =>
  some (y61)) else
  (some ((0 : Int32)))) fun (y10 : Int32) =>
  bnd (if x3 = ((0 : Int32)) then (bnd (if x5 = ((0 : Int32)) then (some ((0 : Int32), M)) else
  (ltt ((((512 : Int32)) + p0)) fun x45 =>
  ltt ((((512 : Int32)) + p1)) fun x46 =>
  bnd (FX4_farApart G M a x45 x46) fun y47 =>
  bnd (if y47.2 = ((0 : Int32)) then (some ((0 : Int32))) else
  (some ((1 : Int32)))) fun (y48 : Int32) =>
  some (y48, y47.1))) fun (y43 : Int32 × DD) =>
  some (y43.1, y43.2)) else
  (bnd (FX4_farApart G M a p0 p1) fun y50 =>
  bnd (if y50.2 = ((0 : Int32)) then (bnd (if x5 = ((0 : Int32)) then (some ((0 : Int32), y50.1)) else
  (ltt ((((512 : Int32)) + p0)) fun x55 =>
  ltt ((((512 : Int32)) + p1)) fun x56 =>
  bnd (FX4_farApart G y50.1 a x55 x56) fun y57 =>
  bnd (if y57.2 = ((0 : Int32)) then (some ((0 : Int32))) else
  (some ((1 : Int32)))) fun (y58 : Int32) =>
  some (y58, y57.1))) fun (y53 : Int32 × DD) =>
  some (y53.1, y53.2)) else
  (some ((1 : Int32), y50.1))) fun (y51 : Int32 × DD) =>
  some (y51.1, y51.2))) fun (y11 : Int32 × DD) =>
  bnd (if x3 = ((0 : Int32)) then (bnd (if x5 = ((0 : Int32)) then (some ((0 : Int32), y11.2)) else
  (ltt ((((512 : Int32)) + p0)) fun x28 =>
  bnd (FX4_farApart G y11.2 a x28 p1) fun y29 =>
  bnd (if y29.2 = ((0 : Int32)) then (some ((0 : Int32))) else
  (some ((1 : Int32)))) fun (y30 : Int32) =>
  some (y30, y29.1))) fun (y26 : Int32 × DD) =>
  some (y26.1, y26.2)) else
  (ltt ((((512 : Int32)) + p1)) fun x32 =>
  bnd (FX4_farApart G y11.2 a p0 x32) fun y33 =>
  bnd (if y33.2 = ((0 : Int32)) then (bnd (if x5 = ((0 : Int32)) then (some ((0 : Int32), y33.1)) else
  (ltt ((((512 : Int32)) + p0)) fun x38 =>
  bnd (FX4_farApart G y33.1 a x38 p1) fun y39 =>
  bnd (if y39.2 = ((0 : Int32)) then (some ((0 : Int32))) else
  (some ((1 : Int32)))) fun (y40 : Int32) =>
  some (y40, y39.1))) fun (y36 : Int32 × DD) =>
  some (y36.1, y36.2)) else
  (some ((1 : Int32), y33.1))) fun (y34 : Int32 × DD) =>
  some (y34.1, y34.2))) fun (y12 : Int32 × DD) =>
  bnd (if y9 = ((0 : Int32)) then (bnd (if y10 = ((0 : Int32)) then (some ((1 : Int32))) else
  (bnd (if y12.1 = ((0 : Int32)) then (some ((0 : Int32))) else
  (some ((1 : Int32)))) fun (y17 : Int32) =>
  some (y17))) fun (y15 : Int32) =>
  some (y15)) else
  (bnd (if y11.1 = ((0 : Int32)) then (some ((0 : Int32))) else
  (bnd (if y10 = ((0 : Int32)) then (some ((1 : Int32))) else
  (bnd (if y12.1 = ((0 : Int32)) then (some ((0 : Int32))) else
  (some ((1 : Int32)))) fun (y23 : Int32) =>
  some (y23))) fun (y21 : Int32) =>
  some (y21))) fun (y19 : Int32) =>
  some (y19))) fun (y13 : Int32) =>
  chk (y13 = 0 ∨ y13 = 1) <|
  some (y12.2, y13)
set_option maxHeartbeats 4000000 in
set_option maxRecDepth 100000 in
theorem kX4_movesApart (l : Launch) (D : va_G) (ct : CT) (ad : Nat → Nat) (Z : Nat → Nat) (G : GG) (M : DD) (sz : Nat) (a : Nat) (p0 : Int32) (p1 : Int32) (y : DD × Int32) (hc : a < G.1) (hk : G.2.1 a = 4) (hF : FX4_movesApart G M a p0 p1 = some y) : Met l yX4_movesApart wsX4_movesApart ({ frames := 1, cells := 0, slots := 0, locals := 24 }) (va_Pc [.ref (ad a), .int p0, .int p1] (kB D ct ad Z G M sz)) (va_Qi (fun (q : Int32) (_ : Unit) => q = y.2) (fun _ t => kE D ct ad G (wA ad G sz) y.1 t) (wA ad G sz)) 0 0 (wA ad G sz) := by
  refine Met.ofW (cc := cX4_movesApart) (maxL := 11) (ret := (some .boolean)) (by decide) rfl ?_
  intro p e s m args below meth c s₁ B hml hv
  obtain ⟨rfl, hsz, hP, hK, hD0, hZ, hN⟩ := hv
  have hx := B.exec
  have hb := B.bytes
  have hr := B.returns
  have hts := atoms_spec (ws := wsX4_movesApart) B.pre
  have hown : s.vm.findClass RX4 = some m.cls := findClass_of_methodNamed B.named
  have hlocks := B.notSynchronized
  subst hsz
  have hD := wD_self (sz := s.heap.size) hD0
  have hA9 : ∀ q, s.heap.size ≤ q → wA ad G s.heap.size q := fun q h => Or.inr h
  generalize hAe : wA ad G s.heap.size = A at hD hA9 hZ ⊢
  have hS : va_S A s.heap s.heap [] := va_S.rf
  have hl := lv_entry ([.ref (ad a), .int p0, .int p1]) (n := 11) (Nat.le_of_ble_eq_true rfl)
  rw [lg_entry_eq]
  generalize (lg_sl ([.ref (ad a), .int p0, .int p1]) ++ List.replicate (11 - (lg_sl ([.ref (ad a), .int p0, .int p1])).length) Slot.unset).toArray = ls at hl ⊢
  have hl : lv_has ls 11 [(0, .ref (ad a)), (1, .int p0), (2, .int p1)] := hl
  unfold FX4_movesApart at hF
  refine lv_aload_n hx hb dX4_movesApart_0 rfl (lv_at hl 0 rfl) ?_
  refine va_get (D := D) (ci := 4) (v := va_re ad (M.2 a 6)) (C := RX4) (T := TX4) (N := 18) hx hb hts (by decide +kernel) hown hK hP a (wld_o ct ad G M hc hk (by decide)) rfl 6 (by decide) (hts (.fieldLink RX4 23 "VideoSuite$Picture" "referenceId" "[I") (by decide +kernel)) (fun _ h9 => h9) rfl dX4_movesApart_1 ?_
  refine lv_iload_n hx hb dX4_movesApart_4 rfl (lv_at hl 1 rfl) ?_
  obtain ⟨b2, ho2, hc2, hk2, hF⟩ := dr_some hF
  refine W_st (st' := [.int p0, .ref (ad b2)]) (by rw [va_some ho2]) ?_
  obtain ⟨hvc, hF⟩ := chk_some hF
  refine va_iald hx hb hK hP b2 1 (wld_i ct ad G M hc2 hk2) rfl hvc dX4_movesApart_5 ?_
  obtain ⟨x3, ex3, hF⟩ := ltt_some hF
  refine lv_topi (fun zx3 ezx3 => ?_)
  obtain rfl : x3 = zx3 := ex3.trans ezx3.symm
  refine lv_istore_n (lv' := [(3, .int x3), (0, .ref (ad a)), (1, .int p0), (2, .int p1)]) hx hb dX4_movesApart_6 rfl hl (by decide) rfl (fun ls hl => ?_)
  refine lv_aload_n hx hb dX4_movesApart_7 rfl (lv_at hl 1 rfl) ?_
  refine va_get (D := D) (ci := 4) (v := va_re ad (M.2 a 6)) (C := RX4) (T := TX4) (N := 18) hx hb hts (by decide +kernel) hown hK hP a (wld_o ct ad G M hc hk (by decide)) rfl 6 (by decide) (hts (.fieldLink RX4 23 "VideoSuite$Picture" "referenceId" "[I") (by decide +kernel)) (fun _ h9 => h9) rfl dX4_movesApart_8 ?_
  refine lv_sipush (v := (512 : Int32)) hx hb dX4_movesApart_11 (by decide) ?_
  refine lv_iload_n hx hb dX4_movesApart_14 rfl (lv_at hl 2 rfl) ?_
  refine lv_iadd hx hb dX4_movesApart_15 ?_
  obtain ⟨x4, ex4, hF⟩ := ltt_some hF
  refine lv_topi (fun zx4 ezx4 => ?_)
  obtain rfl : x4 = zx4 := ex4.trans ezx4.symm
  refine W_st (st' := [.int x4, .ref (ad b2)]) (by rw [va_some ho2]) ?_
  obtain ⟨hvc, hF⟩ := chk_some hF
  refine va_iald hx hb hK hP b2 1 (wld_i ct ad G M hc2 hk2) rfl hvc dX4_movesApart_16 ?_
  obtain ⟨x5, ex5, hF⟩ := ltt_some hF
  refine lv_topi (fun zx5 ezx5 => ?_)
  obtain rfl : x5 = zx5 := ex5.trans ezx5.symm
  refine lv_istore (lv' := [(4, .int x5), (3, .int x3), (0, .ref (ad a)), (1, .int p0), (2, .int p1)]) hx hb dX4_movesApart_17 hl (by decide) rfl (fun ls hl => ?_)
  refine lv_aload_n hx hb dX4_movesApart_19 rfl (lv_at hl 2 rfl) ?_
  refine va_get (D := D) (ci := 4) (v := va_re ad (M.2 a 6)) (C := RX4) (T := TX4) (N := 18) hx hb hts (by decide +kernel) hown hK hP a (wld_o ct ad G M hc hk (by decide)) rfl 6 (by decide) (hts (.fieldLink RX4 23 "VideoSuite$Picture" "referenceId" "[I") (by decide +kernel)) (fun _ h9 => h9) rfl dX4_movesApart_20 ?_
  refine lv_iload_n hx hb dX4_movesApart_23 rfl (lv_at hl 4 rfl) ?_
  refine W_st (st' := [.int p1, .ref (ad b2)]) (by rw [va_some ho2]) ?_
  obtain ⟨hvc, hF⟩ := chk_some hF
  refine va_iald hx hb hK hP b2 1 (wld_i ct ad G M hc2 hk2) rfl hvc dX4_movesApart_24 ?_
  obtain ⟨x6, ex6, hF⟩ := ltt_some hF
  refine lv_topi (fun zx6 ezx6 => ?_)
  obtain rfl : x6 = zx6 := ex6.trans ezx6.symm
  refine lv_istore (lv' := [(5, .int x6), (4, .int x5), (3, .int x3), (0, .ref (ad a)), (1, .int p0), (2, .int p1)]) hx hb dX4_movesApart_25 hl (by decide) rfl (fun ls hl => ?_)
  refine lv_aload_n hx hb dX4_movesApart_27 rfl (lv_at hl 3 rfl) ?_
  refine va_get (D := D) (ci := 4) (v := va_re ad (M.2 a 6)) (C := RX4) (T := TX4) (N := 18) hx hb hts (by decide +kernel) hown hK hP a (wld_o ct ad G M hc hk (by decide)) rfl 6 (by decide) (hts (.fieldLink RX4 23 "VideoSuite$Picture" "referenceId" "[I") (by decide +kernel)) (fun _ h9 => h9) rfl dX4_movesApart_28 ?_
  refine lv_sipush (v := (512 : Int32)) hx hb dX4_movesApart_31 (by decide) ?_
  refine lv_iload_n hx hb dX4_movesApart_34 rfl (lv_at hl 5 rfl) ?_
  refine lv_iadd hx hb dX4_movesApart_35 ?_
  obtain ⟨x7, ex7, hF⟩ := ltt_some hF
  refine lv_topi (fun zx7 ezx7 => ?_)
  obtain rfl : x7 = zx7 := ex7.trans ezx7.symm
  refine W_st (st' := [.int x7, .ref (ad b2)]) (by rw [va_some ho2]) ?_
  obtain ⟨hvc, hF⟩ := chk_some hF
  refine va_iald hx hb hK hP b2 1 (wld_i ct ad G M hc2 hk2) rfl hvc dX4_movesApart_36 ?_
  obtain ⟨x8, ex8, hF⟩ := ltt_some hF
  refine lv_topi (fun zx8 ezx8 => ?_)
  obtain rfl : x8 = zx8 := ex8.trans ezx8.symm
  refine lv_istore (lv' := [(6, .int x8), (5, .int x6), (4, .int x5), (3, .int x3), (0, .ref (ad a)), (1, .int p0), (2, .int p1)]) hx hb dX4_movesApart_37 hl (by decide) rfl (fun ls hl => ?_)
  refine lv_iload_n hx hb dX4_movesApart_39 rfl (lv_at hl 3 rfl) ?_
  refine lv_iload hx hb dX4_movesApart_40 (lv_at hl 1 rfl) ?_
  obtain ⟨y9, hy9, hF⟩ := bnd_some hF
  have J9 : ∀ (H : Heap) (locs : List Loc) (ls : Array Slot), va_P D classes (wld ct ad G M) H → va_D A (wld ct ad G M) → va_S A s.heap H locs → lv_has ls 11 [(6, .int x8), (5, .int x6), (4, .int x5), (3, .int x3), (0, .ref (ad a)), (1, .int p0), (2, .int p1)] → W p l e (headSpec wsX4_movesApart ({ frames := 1, cells := 0, slots := 0, locals := 24 })).room s m ([.ref (ad a), .int p0, .int p1] : List Value).toArray below meth c H locs 0 0 (MQ below (va_Qi (fun (q : Int32) (_ : Unit) => q = y.2) (fun _ t => kE D ct ad G A y.1 t) A) ([.ref (ad a), .int p0, .int p1] : List Value).toArray s 0 0 A) (F0 m 57 ls [.int y9]) := by
    intro H locs ls hP hD hS hl
    refine lv_istore (lv' := [(7, .int y9), (6, .int x8), (5, .int x6), (4, .int x5), (3, .int x3), (0, .ref (ad a)), (1, .int p0), (2, .int p1)]) hx hb dX4_movesApart_57 hl (by decide) rfl (fun ls hl => ?_)
    refine lv_iload_n hx hb dX4_movesApart_59 rfl (lv_at hl 4 rfl) ?_
    refine lv_iload hx hb dX4_movesApart_60 (lv_at hl 1 rfl) ?_
    obtain ⟨y10, hy10, hF⟩ := bnd_some hF
    have J10 : ∀ (H : Heap) (locs : List Loc) (ls : Array Slot), va_P D classes (wld ct ad G M) H → va_D A (wld ct ad G M) → va_S A s.heap H locs → lv_has ls 11 [(7, .int y9), (6, .int x8), (5, .int x6), (4, .int x5), (3, .int x3), (0, .ref (ad a)), (1, .int p0), (2, .int p1)] → W p l e (headSpec wsX4_movesApart ({ frames := 1, cells := 0, slots := 0, locals := 24 })).room s m ([.ref (ad a), .int p0, .int p1] : List Value).toArray below meth c H locs 0 0 (MQ below (va_Qi (fun (q : Int32) (_ : Unit) => q = y.2) (fun _ t => kE D ct ad G A y.1 t) A) ([.ref (ad a), .int p0, .int p1] : List Value).toArray s 0 0 A) (F0 m 77 ls [.int y10]) := by
      intro H locs ls hP hD hS hl
      refine lv_istore (lv' := [(8, .int y10), (7, .int y9), (6, .int x8), (5, .int x6), (4, .int x5), (3, .int x3), (0, .ref (ad a)), (1, .int p0), (2, .int p1)]) hx hb dX4_movesApart_77 hl (by decide) rfl (fun ls hl => ?_)
      refine lv_iload_n hx hb dX4_movesApart_79 rfl (lv_at hl 5 rfl) ?_
      obtain ⟨y11, hy11, hF⟩ := bnd_some hF
      have J11 : ∀ (H : Heap) (locs : List Loc) (ls : Array Slot), va_P D classes (wld ct ad G y11.2) H → va_D A (wld ct ad G y11.2) → va_S A s.heap H locs → lv_has ls 11 [(8, .int y10), (7, .int y9), (6, .int x8), (5, .int x6), (4, .int x5), (3, .int x3), (0, .ref (ad a)), (1, .int p0), (2, .int p1)] → W p l e (headSpec wsX4_movesApart ({ frames := 1, cells := 0, slots := 0, locals := 24 })).room s m ([.ref (ad a), .int p0, .int p1] : List Value).toArray below meth c H locs 0 0 (MQ below (va_Qi (fun (q : Int32) (_ : Unit) => q = y.2) (fun _ t => kE D ct ad G A y.1 t) A) ([.ref (ad a), .int p0, .int p1] : List Value).toArray s 0 0 A) (F0 m 119 ls [.int y11.1]) := by
        intro H locs ls hP hD hS hl
        refine lv_istore (lv' := [(9, .int y11.1), (8, .int y10), (7, .int y9), (6, .int x8), (5, .int x6), (4, .int x5), (3, .int x3), (0, .ref (ad a)), (1, .int p0), (2, .int p1)]) hx hb dX4_movesApart_119 hl (by decide) rfl (fun ls hl => ?_)
        refine lv_iload_n hx hb dX4_movesApart_121 rfl (lv_at hl 6 rfl) ?_
        obtain ⟨y12, hy12, hF⟩ := bnd_some hF
        have J12 : ∀ (H : Heap) (locs : List Loc) (ls : Array Slot), va_P D classes (wld ct ad G y12.2) H → va_D A (wld ct ad G y12.2) → va_S A s.heap H locs → lv_has ls 11 [(9, .int y11.1), (8, .int y10), (7, .int y9), (6, .int x8), (5, .int x6), (4, .int x5), (3, .int x3), (0, .ref (ad a)), (1, .int p0), (2, .int p1)] → W p l e (headSpec wsX4_movesApart ({ frames := 1, cells := 0, slots := 0, locals := 24 })).room s m ([.ref (ad a), .int p0, .int p1] : List Value).toArray below meth c H locs 0 0 (MQ below (va_Qi (fun (q : Int32) (_ : Unit) => q = y.2) (fun _ t => kE D ct ad G A y.1 t) A) ([.ref (ad a), .int p0, .int p1] : List Value).toArray s 0 0 A) (F0 m 161 ls [.int y12.1]) := by
          intro H locs ls hP hD hS hl
          refine lv_istore (lv' := [(10, .int y12.1), (9, .int y11.1), (8, .int y10), (7, .int y9), (6, .int x8), (5, .int x6), (4, .int x5), (3, .int x3), (0, .ref (ad a)), (1, .int p0), (2, .int p1)]) hx hb dX4_movesApart_161 hl (by decide) rfl (fun ls hl => ?_)
          refine lv_iload hx hb dX4_movesApart_163 (lv_at hl 3 rfl) ?_
          obtain ⟨y13, hy13, hF⟩ := bnd_some hF
          have J13 : ∀ (H : Heap) (locs : List Loc) (ls : Array Slot), va_P D classes (wld ct ad G y12.2) H → va_D A (wld ct ad G y12.2) → va_S A s.heap H locs → lv_has ls 11 [(10, .int y12.1), (9, .int y11.1), (8, .int y10), (7, .int y9), (6, .int x8), (5, .int x6), (4, .int x5), (3, .int x3), (0, .ref (ad a)), (1, .int p0), (2, .int p1)] → W p l e (headSpec wsX4_movesApart ({ frames := 1, cells := 0, slots := 0, locals := 24 })).room s m ([.ref (ad a), .int p0, .int p1] : List Value).toArray below meth c H locs 0 0 (MQ below (va_Qi (fun (q : Int32) (_ : Unit) => q = y.2) (fun _ t => kE D ct ad G A y.1 t) A) ([.ref (ad a), .int p0, .int p1] : List Value).toArray s 0 0 A) (F0 m 188 ls [.int y13]) := by
            intro H locs ls hP hD hS hl
            obtain ⟨hz9, hF⟩ := chk_some hF
            obtain rfl := Option.some.inj hF
            exact W.zret (v := y13) (ty := .boolean) hx hb hr (nar_z hz9).1 (fun t ht hW => ⟨⟨_, (), rfl, rfl, ⟨by rw [ht]; exact hP, va_K.moved hW.alike hK, hD⟩⟩, hS.F ht⟩) hS.2.2 dX4_movesApart_188
          clear hF
          have hF := hy13
          clear hy13
          refine lv_if_eq (tgt := 173) hx hb dX4_movesApart_165 (by decide) (fun c14 => ?_) (fun c14 => ?_)
          · rw [if_pos c14] at hF
            refine lv_iload hx hb dX4_movesApart_173 (lv_at hl 2 rfl) ?_
            obtain ⟨y15, hy15, hF⟩ := bnd_some hF
            have J15 : ∀ (H : Heap) (locs : List Loc) (ls : Array Slot), va_P D classes (wld ct ad G y12.2) H → va_D A (wld ct ad G y12.2) → va_S A s.heap H locs → lv_has ls 11 [(10, .int y12.1), (9, .int y11.1), (8, .int y10), (7, .int y9), (6, .int x8), (5, .int x6), (4, .int x5), (3, .int x3), (0, .ref (ad a)), (1, .int p0), (2, .int p1)] → W p l e (headSpec wsX4_movesApart ({ frames := 1, cells := 0, slots := 0, locals := 24 })).room s m ([.ref (ad a), .int p0, .int p1] : List Value).toArray below meth c H locs 0 0 (MQ below (va_Qi (fun (q : Int32) (_ : Unit) => q = y.2) (fun _ t => kE D ct ad G A y.1 t) A) ([.ref (ad a), .int p0, .int p1] : List Value).toArray s 0 0 A) (F0 m 188 ls [.int y15]) := by
              intro H locs ls hP hD hS hl
              obtain rfl := Option.some.inj hF
              exact J13 _ _ _ hP hD hS (lv_sub hl [0, 1, 2, 3, 4, 5, 6, 7, 8, 9, 10] rfl)
            clear hF
            have hF := hy15
            clear hy15
            refine lv_if_eq (tgt := 183) hx hb dX4_movesApart_175 (by decide) (fun c16 => ?_) (fun c16 => ?_)
            · rw [if_pos c16] at hF
              refine lv_iconst (v := (1 : Int32)) hx hb dX4_movesApart_183 (by decide) ?_
              refine lv_goto (tgt := 188) hx hb dX4_movesApart_184 (by decide) ?_
              obtain rfl := Option.some.inj hF
              exact J15 _ _ _ hP hD hS (lv_sub hl [0, 1, 2, 3, 4, 5, 6, 7, 8, 9, 10] rfl)
            · rw [if_neg c16] at hF
              refine lv_iload hx hb dX4_movesApart_178 (lv_at hl 0 rfl) ?_
              obtain ⟨y17, hy17, hF⟩ := bnd_some hF
              have J17 : ∀ (H : Heap) (locs : List Loc) (ls : Array Slot), va_P D classes (wld ct ad G y12.2) H → va_D A (wld ct ad G y12.2) → va_S A s.heap H locs → lv_has ls 11 [(10, .int y12.1), (9, .int y11.1), (8, .int y10), (7, .int y9), (6, .int x8), (5, .int x6), (4, .int x5), (3, .int x3), (0, .ref (ad a)), (1, .int p0), (2, .int p1)] → W p l e (headSpec wsX4_movesApart ({ frames := 1, cells := 0, slots := 0, locals := 24 })).room s m ([.ref (ad a), .int p0, .int p1] : List Value).toArray below meth c H locs 0 0 (MQ below (va_Qi (fun (q : Int32) (_ : Unit) => q = y.2) (fun _ t => kE D ct ad G A y.1 t) A) ([.ref (ad a), .int p0, .int p1] : List Value).toArray s 0 0 A) (F0 m 188 ls [.int y17]) := by
                intro H locs ls hP hD hS hl
                obtain rfl := Option.some.inj hF
                exact J15 _ _ _ hP hD hS (lv_sub hl [0, 1, 2, 3, 4, 5, 6, 7, 8, 9, 10] rfl)
              clear hF
              have hF := hy17
              clear hy17
              refine lv_if_eq (tgt := 187) hx hb dX4_movesApart_180 (by decide) (fun c18 => ?_) (fun c18 => ?_)
              · rw [if_pos c18] at hF
                refine lv_iconst (v := (0 : Int32)) hx hb dX4_movesApart_187 (by decide) ?_
                obtain rfl := Option.some.inj hF
                exact J17 _ _ _ hP hD hS (lv_sub hl [0, 1, 2, 3, 4, 5, 6, 7, 8, 9, 10] rfl)
              · rw [if_neg c18] at hF
                refine lv_iconst (v := (1 : Int32)) hx hb dX4_movesApart_183 (by decide) ?_
                refine lv_goto (tgt := 188) hx hb dX4_movesApart_184 (by decide) ?_
                obtain rfl := Option.some.inj hF
                exact J17 _ _ _ hP hD hS (lv_sub hl [0, 1, 2, 3, 4, 5, 6, 7, 8, 9, 10] rfl)
          · rw [if_neg c14] at hF
            refine lv_iload hx hb dX4_movesApart_168 (lv_at hl 1 rfl) ?_
            obtain ⟨y19, hy19, hF⟩ := bnd_some hF
            have J19 : ∀ (H : Heap) (locs : List Loc) (ls : Array Slot), va_P D classes (wld ct ad G y12.2) H → va_D A (wld ct ad G y12.2) → va_S A s.heap H locs → lv_has ls 11 [(10, .int y12.1), (9, .int y11.1), (8, .int y10), (7, .int y9), (6, .int x8), (5, .int x6), (4, .int x5), (3, .int x3), (0, .ref (ad a)), (1, .int p0), (2, .int p1)] → W p l e (headSpec wsX4_movesApart ({ frames := 1, cells := 0, slots := 0, locals := 24 })).room s m ([.ref (ad a), .int p0, .int p1] : List Value).toArray below meth c H locs 0 0 (MQ below (va_Qi (fun (q : Int32) (_ : Unit) => q = y.2) (fun _ t => kE D ct ad G A y.1 t) A) ([.ref (ad a), .int p0, .int p1] : List Value).toArray s 0 0 A) (F0 m 188 ls [.int y19]) := by
              intro H locs ls hP hD hS hl
              obtain rfl := Option.some.inj hF
              exact J13 _ _ _ hP hD hS (lv_sub hl [0, 1, 2, 3, 4, 5, 6, 7, 8, 9, 10] rfl)
            clear hF
            have hF := hy19
            clear hy19
            refine lv_if_eq (tgt := 187) hx hb dX4_movesApart_170 (by decide) (fun c20 => ?_) (fun c20 => ?_)
            · rw [if_pos c20] at hF
              refine lv_iconst (v := (0 : Int32)) hx hb dX4_movesApart_187 (by decide) ?_
              obtain rfl := Option.some.inj hF
              exact J19 _ _ _ hP hD hS (lv_sub hl [0, 1, 2, 3, 4, 5, 6, 7, 8, 9, 10] rfl)
            · rw [if_neg c20] at hF
              refine lv_iload hx hb dX4_movesApart_173 (lv_at hl 2 rfl) ?_
              obtain ⟨y21, hy21, hF⟩ := bnd_some hF
              have J21 : ∀ (H : Heap) (locs : List Loc) (ls : Array Slot), va_P D classes (wld ct ad G y12.2) H → va_D A (wld ct ad G y12.2) → va_S A s.heap H locs → lv_has ls 11 [(10, .int y12.1), (9, .int y11.1), (8, .int y10), (7, .int y9), (6, .int x8), (5, .int x6), (4, .int x5), (3, .int x3), (0, .ref (ad a)), (1, .int p0), (2, .int p1)] → W p l e (headSpec wsX4_movesApart ({ frames := 1, cells := 0, slots := 0, locals := 24 })).room s m ([.ref (ad a), .int p0, .int p1] : List Value).toArray below meth c H locs 0 0 (MQ below (va_Qi (fun (q : Int32) (_ : Unit) => q = y.2) (fun _ t => kE D ct ad G A y.1 t) A) ([.ref (ad a), .int p0, .int p1] : List Value).toArray s 0 0 A) (F0 m 188 ls [.int y21]) := by
                intro H locs ls hP hD hS hl
                obtain rfl := Option.some.inj hF
                exact J19 _ _ _ hP hD hS (lv_sub hl [0, 1, 2, 3, 4, 5, 6, 7, 8, 9, 10] rfl)
              clear hF
              have hF := hy21
              clear hy21
              refine lv_if_eq (tgt := 183) hx hb dX4_movesApart_175 (by decide) (fun c22 => ?_) (fun c22 => ?_)
              · rw [if_pos c22] at hF
                refine lv_iconst (v := (1 : Int32)) hx hb dX4_movesApart_183 (by decide) ?_
                refine lv_goto (tgt := 188) hx hb dX4_movesApart_184 (by decide) ?_
                obtain rfl := Option.some.inj hF
                exact J21 _ _ _ hP hD hS (lv_sub hl [0, 1, 2, 3, 4, 5, 6, 7, 8, 9, 10] rfl)
              · rw [if_neg c22] at hF
                refine lv_iload hx hb dX4_movesApart_178 (lv_at hl 0 rfl) ?_
                obtain ⟨y23, hy23, hF⟩ := bnd_some hF
                have J23 : ∀ (H : Heap) (locs : List Loc) (ls : Array Slot), va_P D classes (wld ct ad G y12.2) H → va_D A (wld ct ad G y12.2) → va_S A s.heap H locs → lv_has ls 11 [(10, .int y12.1), (9, .int y11.1), (8, .int y10), (7, .int y9), (6, .int x8), (5, .int x6), (4, .int x5), (3, .int x3), (0, .ref (ad a)), (1, .int p0), (2, .int p1)] → W p l e (headSpec wsX4_movesApart ({ frames := 1, cells := 0, slots := 0, locals := 24 })).room s m ([.ref (ad a), .int p0, .int p1] : List Value).toArray below meth c H locs 0 0 (MQ below (va_Qi (fun (q : Int32) (_ : Unit) => q = y.2) (fun _ t => kE D ct ad G A y.1 t) A) ([.ref (ad a), .int p0, .int p1] : List Value).toArray s 0 0 A) (F0 m 188 ls [.int y23]) := by
                  intro H locs ls hP hD hS hl
                  obtain rfl := Option.some.inj hF
                  exact J21 _ _ _ hP hD hS (lv_sub hl [0, 1, 2, 3, 4, 5, 6, 7, 8, 9, 10] rfl)
                clear hF
                have hF := hy23
                clear hy23
                refine lv_if_eq (tgt := 187) hx hb dX4_movesApart_180 (by decide) (fun c24 => ?_) (fun c24 => ?_)
                · rw [if_pos c24] at hF
                  refine lv_iconst (v := (0 : Int32)) hx hb dX4_movesApart_187 (by decide) ?_
                  obtain rfl := Option.some.inj hF
                  exact J23 _ _ _ hP hD hS (lv_sub hl [0, 1, 2, 3, 4, 5, 6, 7, 8, 9, 10] rfl)
                · rw [if_neg c24] at hF
                  refine lv_iconst (v := (1 : Int32)) hx hb dX4_movesApart_183 (by decide) ?_
                  refine lv_goto (tgt := 188) hx hb dX4_movesApart_184 (by decide) ?_
                  obtain rfl := Option.some.inj hF
                  exact J23 _ _ _ hP hD hS (lv_sub hl [0, 1, 2, 3, 4, 5, 6, 7, 8, 9, 10] rfl)
        clear hF
        have hF := hy12
        clear hy12
        refine lv_if_eq (tgt := 138) hx hb dX4_movesApart_122 (by decide) (fun c25 => ?_) (fun c25 => ?_)
        · rw [if_pos c25] at hF
          refine lv_iload hx hb dX4_movesApart_138 (lv_at hl 5 rfl) ?_
          obtain ⟨y26, hy26, hF⟩ := bnd_some hF
          have J26 : ∀ (H : Heap) (locs : List Loc) (ls : Array Slot), va_P D classes (wld ct ad G y26.2) H → va_D A (wld ct ad G y26.2) → va_S A s.heap H locs → lv_has ls 11 [(9, .int y11.1), (8, .int y10), (7, .int y9), (6, .int x8), (5, .int x6), (4, .int x5), (3, .int x3), (0, .ref (ad a)), (1, .int p0), (2, .int p1)] → W p l e (headSpec wsX4_movesApart ({ frames := 1, cells := 0, slots := 0, locals := 24 })).room s m ([.ref (ad a), .int p0, .int p1] : List Value).toArray below meth c H locs 0 0 (MQ below (va_Qi (fun (q : Int32) (_ : Unit) => q = y.2) (fun _ t => kE D ct ad G A y.1 t) A) ([.ref (ad a), .int p0, .int p1] : List Value).toArray s 0 0 A) (F0 m 161 ls [.int y26.1]) := by
            intro H locs ls hP hD hS hl
            obtain rfl := Option.some.inj hF
            exact J12 _ _ _ hP hD hS (lv_sub hl [0, 1, 2, 3, 4, 5, 6, 7, 8, 9] rfl)
          clear hF
          have hF := hy26
          clear hy26
          refine lv_if_eq (tgt := 160) hx hb dX4_movesApart_140 (by decide) (fun c27 => ?_) (fun c27 => ?_)
          · rw [if_pos c27] at hF
            refine lv_iconst (v := (0 : Int32)) hx hb dX4_movesApart_160 (by decide) ?_
            obtain rfl := Option.some.inj hF
            exact J26 _ _ _ hP hD hS (lv_sub hl [0, 1, 2, 3, 4, 5, 6, 7, 8, 9] rfl)
          · rw [if_neg c27] at hF
            refine lv_aload_n hx hb dX4_movesApart_143 rfl (lv_at hl 7 rfl) ?_
            refine lv_sipush (v := (512 : Int32)) hx hb dX4_movesApart_144 (by decide) ?_
            refine lv_iload_n hx hb dX4_movesApart_147 rfl (lv_at hl 8 rfl) ?_
            refine lv_iadd hx hb dX4_movesApart_148 ?_
            obtain ⟨x28, ex28, hF⟩ := ltt_some hF
            refine lv_topi (fun zx28 ezx28 => ?_)
            obtain rfl : x28 = zx28 := ex28.trans ezx28.symm
            refine lv_iload_n hx hb dX4_movesApart_149 rfl (lv_at hl 9 rfl) ?_
            obtain ⟨y29, hy29, hF⟩ := bnd_some hF
            have hf9 := wA_in hD hA9 hS
            refine va_calli (va_runV (As := [.int x28, .int p1]) (rest := []) ⟨hx, hb, hml, hown, hts⟩ (kX4_farApart l D ct ad Z G y11.2 H.size a x28 p1 y29 hc hk hy29) (cwV 2 hts gX4_movesApart_X4_farApart rfl rfl rfl (by decide +kernel) ⟨Nat.le_of_ble_eq_true rfl, Nat.le_of_ble_eq_true rfl⟩) ⟨fun a U g mk q => by obtain ⟨q0, q1, qP, qK, qD, qZ, qN⟩ := q; exact ⟨q0, q1, qP, va_K.moved (u := U) (U := U.calling g mk a) (Vm.Alike.refl U.vm) qK, qD, sF.moved (u := U) (U := U.calling g mk a) (Vm.Alike.refl U.vm) qZ, nF.same rfl qN⟩, va_recv hK hP (ci := 4) (q0 := a) rfl (wld_o ct ad G y11.2 hc hk (by decide)), fun U hU hW => ⟨rfl, by rw [hU], by rw [hU]; exact hP, va_K.moved hW.alike hK, hD.weaken (fun _ _ _ _ => trivial), by rw [hU]; exact ((hZ.kept hS.2.1).narrow hf9).moved hW.alike, hN.warm hW⟩⟩ rfl rfl hl.1 rfl (lv_room (Nat.le_of_ble_eq_true rfl)) dX4_movesApart_150 ⟨(Nat.zero_le _), (Nat.zero_le _)⟩) hS (fun q _ h => hf9 q h) hf9 (fun r u t H locs ht hvm hw hB hz1 hk1 hS => ?_)
            obtain ⟨hP, hK9, hD9⟩ := hB
            rw [ht] at hP
            try dsimp only at hw
            subst hw
            have hD := hD9.weaken (fun _ q _ h => hf9 q.1 h)
            obtain ⟨y30, hy30, hF⟩ := bnd_some hF
            have J30 : ∀ (H : Heap) (locs : List Loc) (ls : Array Slot), va_P D classes (wld ct ad G y29.1) H → va_D A (wld ct ad G y29.1) → va_S A s.heap H locs → lv_has ls 11 [(9, .int y11.1), (8, .int y10), (7, .int y9), (6, .int x8), (5, .int x6), (4, .int x5), (3, .int x3), (0, .ref (ad a)), (1, .int p0), (2, .int p1)] → W p l e (headSpec wsX4_movesApart ({ frames := 1, cells := 0, slots := 0, locals := 24 })).room s m ([.ref (ad a), .int p0, .int p1] : List Value).toArray below meth c H locs 0 0 (MQ below (va_Qi (fun (q : Int32) (_ : Unit) => q = y.2) (fun _ t => kE D ct ad G A y.1 t) A) ([.ref (ad a), .int p0, .int p1] : List Value).toArray s 0 0 A) (F0 m 161 ls [.int y30]) := by
              intro H locs ls hP hD hS hl
              obtain rfl := Option.some.inj hF
              exact J26 _ _ _ hP hD hS (lv_sub hl [0, 1, 2, 3, 4, 5, 6, 7, 8, 9] rfl)
            clear hF
            have hF := hy30
            clear hy30
            refine lv_if_eq (tgt := 160) hx hb dX4_movesApart_153 (by decide) (fun c31 => ?_) (fun c31 => ?_)
            · rw [if_pos c31] at hF
              refine lv_iconst (v := (0 : Int32)) hx hb dX4_movesApart_160 (by decide) ?_
              obtain rfl := Option.some.inj hF
              exact J30 _ _ _ hP hD hS (lv_sub hl [0, 1, 2, 3, 4, 5, 6, 7, 8, 9] rfl)
            · rw [if_neg c31] at hF
              refine lv_iconst (v := (1 : Int32)) hx hb dX4_movesApart_156 (by decide) ?_
              refine lv_goto (tgt := 161) hx hb dX4_movesApart_157 (by decide) ?_
              obtain rfl := Option.some.inj hF
              exact J30 _ _ _ hP hD hS (lv_sub hl [0, 1, 2, 3, 4, 5, 6, 7, 8, 9] rfl)
        · rw [if_neg c25] at hF
          refine lv_aload_n hx hb dX4_movesApart_125 rfl (lv_at hl 7 rfl) ?_
          refine lv_iload_n hx hb dX4_movesApart_126 rfl (lv_at hl 8 rfl) ?_
          refine lv_sipush (v := (512 : Int32)) hx hb dX4_movesApart_127 (by decide) ?_
          refine lv_iload_n hx hb dX4_movesApart_130 rfl (lv_at hl 9 rfl) ?_
          refine lv_iadd hx hb dX4_movesApart_131 ?_
          obtain ⟨x32, ex32, hF⟩ := ltt_some hF
          refine lv_topi (fun zx32 ezx32 => ?_)
          obtain rfl : x32 = zx32 := ex32.trans ezx32.symm
          obtain ⟨y33, hy33, hF⟩ := bnd_some hF
          have hf9 := wA_in hD hA9 hS
          refine va_calli (va_runV (As := [.int p0, .int x32]) (rest := []) ⟨hx, hb, hml, hown, hts⟩ (kX4_farApart l D ct ad Z G y11.2 H.size a p0 x32 y33 hc hk hy33) (cwV 2 hts gX4_movesApart_X4_farApart rfl rfl rfl (by decide +kernel) ⟨Nat.le_of_ble_eq_true rfl, Nat.le_of_ble_eq_true rfl⟩) ⟨fun a U g mk q => by obtain ⟨q0, q1, qP, qK, qD, qZ, qN⟩ := q; exact ⟨q0, q1, qP, va_K.moved (u := U) (U := U.calling g mk a) (Vm.Alike.refl U.vm) qK, qD, sF.moved (u := U) (U := U.calling g mk a) (Vm.Alike.refl U.vm) qZ, nF.same rfl qN⟩, va_recv hK hP (ci := 4) (q0 := a) rfl (wld_o ct ad G y11.2 hc hk (by decide)), fun U hU hW => ⟨rfl, by rw [hU], by rw [hU]; exact hP, va_K.moved hW.alike hK, hD.weaken (fun _ _ _ _ => trivial), by rw [hU]; exact ((hZ.kept hS.2.1).narrow hf9).moved hW.alike, hN.warm hW⟩⟩ rfl rfl hl.1 rfl (lv_room (Nat.le_of_ble_eq_true rfl)) dX4_movesApart_132 ⟨(Nat.zero_le _), (Nat.zero_le _)⟩) hS (fun q _ h => hf9 q h) hf9 (fun r u t H locs ht hvm hw hB hz1 hk1 hS => ?_)
          obtain ⟨hP, hK9, hD9⟩ := hB
          rw [ht] at hP
          try dsimp only at hw
          subst hw
          have hD := hD9.weaken (fun _ q _ h => hf9 q.1 h)
          obtain ⟨y34, hy34, hF⟩ := bnd_some hF
          have J34 : ∀ (H : Heap) (locs : List Loc) (ls : Array Slot), va_P D classes (wld ct ad G y34.2) H → va_D A (wld ct ad G y34.2) → va_S A s.heap H locs → lv_has ls 11 [(9, .int y11.1), (8, .int y10), (7, .int y9), (6, .int x8), (5, .int x6), (4, .int x5), (3, .int x3), (0, .ref (ad a)), (1, .int p0), (2, .int p1)] → W p l e (headSpec wsX4_movesApart ({ frames := 1, cells := 0, slots := 0, locals := 24 })).room s m ([.ref (ad a), .int p0, .int p1] : List Value).toArray below meth c H locs 0 0 (MQ below (va_Qi (fun (q : Int32) (_ : Unit) => q = y.2) (fun _ t => kE D ct ad G A y.1 t) A) ([.ref (ad a), .int p0, .int p1] : List Value).toArray s 0 0 A) (F0 m 161 ls [.int y34.1]) := by
            intro H locs ls hP hD hS hl
            obtain rfl := Option.some.inj hF
            exact J12 _ _ _ hP hD hS (lv_sub hl [0, 1, 2, 3, 4, 5, 6, 7, 8, 9] rfl)
          clear hF
          have hF := hy34
          clear hy34
          refine lv_if_ne (tgt := 156) hx hb dX4_movesApart_135 (by decide) (fun c35 => ?_) (fun c35 => ?_)
          · rw [if_neg c35] at hF
            refine lv_iconst (v := (1 : Int32)) hx hb dX4_movesApart_156 (by decide) ?_
            refine lv_goto (tgt := 161) hx hb dX4_movesApart_157 (by decide) ?_
            obtain rfl := Option.some.inj hF
            exact J34 _ _ _ hP hD hS (lv_sub hl [0, 1, 2, 3, 4, 5, 6, 7, 8, 9] rfl)
          · rw [if_pos c35] at hF
            refine lv_iload hx hb dX4_movesApart_138 (lv_at hl 5 rfl) ?_
            obtain ⟨y36, hy36, hF⟩ := bnd_some hF
            have J36 : ∀ (H : Heap) (locs : List Loc) (ls : Array Slot), va_P D classes (wld ct ad G y36.2) H → va_D A (wld ct ad G y36.2) → va_S A s.heap H locs → lv_has ls 11 [(9, .int y11.1), (8, .int y10), (7, .int y9), (6, .int x8), (5, .int x6), (4, .int x5), (3, .int x3), (0, .ref (ad a)), (1, .int p0), (2, .int p1)] → W p l e (headSpec wsX4_movesApart ({ frames := 1, cells := 0, slots := 0, locals := 24 })).room s m ([.ref (ad a), .int p0, .int p1] : List Value).toArray below meth c H locs 0 0 (MQ below (va_Qi (fun (q : Int32) (_ : Unit) => q = y.2) (fun _ t => kE D ct ad G A y.1 t) A) ([.ref (ad a), .int p0, .int p1] : List Value).toArray s 0 0 A) (F0 m 161 ls [.int y36.1]) := by
              intro H locs ls hP hD hS hl
              obtain rfl := Option.some.inj hF
              exact J34 _ _ _ hP hD hS (lv_sub hl [0, 1, 2, 3, 4, 5, 6, 7, 8, 9] rfl)
            clear hF
            have hF := hy36
            clear hy36
            refine lv_if_eq (tgt := 160) hx hb dX4_movesApart_140 (by decide) (fun c37 => ?_) (fun c37 => ?_)
            · rw [if_pos c37] at hF
              refine lv_iconst (v := (0 : Int32)) hx hb dX4_movesApart_160 (by decide) ?_
              obtain rfl := Option.some.inj hF
              exact J36 _ _ _ hP hD hS (lv_sub hl [0, 1, 2, 3, 4, 5, 6, 7, 8, 9] rfl)
            · rw [if_neg c37] at hF
              refine lv_aload_n hx hb dX4_movesApart_143 rfl (lv_at hl 7 rfl) ?_
              refine lv_sipush (v := (512 : Int32)) hx hb dX4_movesApart_144 (by decide) ?_
              refine lv_iload_n hx hb dX4_movesApart_147 rfl (lv_at hl 8 rfl) ?_
              refine lv_iadd hx hb dX4_movesApart_148 ?_
              obtain ⟨x38, ex38, hF⟩ := ltt_some hF
              refine lv_topi (fun zx38 ezx38 => ?_)
              obtain rfl : x38 = zx38 := ex38.trans ezx38.symm
              refine lv_iload_n hx hb dX4_movesApart_149 rfl (lv_at hl 9 rfl) ?_
              obtain ⟨y39, hy39, hF⟩ := bnd_some hF
              have hf9 := wA_in hD hA9 hS
              refine va_calli (va_runV (As := [.int x38, .int p1]) (rest := []) ⟨hx, hb, hml, hown, hts⟩ (kX4_farApart l D ct ad Z G y33.1 H.size a x38 p1 y39 hc hk hy39) (cwV 2 hts gX4_movesApart_X4_farApart rfl rfl rfl (by decide +kernel) ⟨Nat.le_of_ble_eq_true rfl, Nat.le_of_ble_eq_true rfl⟩) ⟨fun a U g mk q => by obtain ⟨q0, q1, qP, qK, qD, qZ, qN⟩ := q; exact ⟨q0, q1, qP, va_K.moved (u := U) (U := U.calling g mk a) (Vm.Alike.refl U.vm) qK, qD, sF.moved (u := U) (U := U.calling g mk a) (Vm.Alike.refl U.vm) qZ, nF.same rfl qN⟩, va_recv hK hP (ci := 4) (q0 := a) rfl (wld_o ct ad G y33.1 hc hk (by decide)), fun U hU hW => ⟨rfl, by rw [hU], by rw [hU]; exact hP, va_K.moved hW.alike hK, hD.weaken (fun _ _ _ _ => trivial), by rw [hU]; exact ((hZ.kept hS.2.1).narrow hf9).moved hW.alike, hN.warm hW⟩⟩ rfl rfl hl.1 rfl (lv_room (Nat.le_of_ble_eq_true rfl)) dX4_movesApart_150 ⟨(Nat.zero_le _), (Nat.zero_le _)⟩) hS (fun q _ h => hf9 q h) hf9 (fun r u t H locs ht hvm hw hB hz1 hk1 hS => ?_)
              obtain ⟨hP, hK9, hD9⟩ := hB
              rw [ht] at hP
              try dsimp only at hw
              subst hw
              have hD := hD9.weaken (fun _ q _ h => hf9 q.1 h)
              obtain ⟨y40, hy40, hF⟩ := bnd_some hF
              have J40 : ∀ (H : Heap) (locs : List Loc) (ls : Array Slot), va_P D classes (wld ct ad G y39.1) H → va_D A (wld ct ad G y39.1) → va_S A s.heap H locs → lv_has ls 11 [(9, .int y11.1), (8, .int y10), (7, .int y9), (6, .int x8), (5, .int x6), (4, .int x5), (3, .int x3), (0, .ref (ad a)), (1, .int p0), (2, .int p1)] → W p l e (headSpec wsX4_movesApart ({ frames := 1, cells := 0, slots := 0, locals := 24 })).room s m ([.ref (ad a), .int p0, .int p1] : List Value).toArray below meth c H locs 0 0 (MQ below (va_Qi (fun (q : Int32) (_ : Unit) => q = y.2) (fun _ t => kE D ct ad G A y.1 t) A) ([.ref (ad a), .int p0, .int p1] : List Value).toArray s 0 0 A) (F0 m 161 ls [.int y40]) := by
                intro H locs ls hP hD hS hl
                obtain rfl := Option.some.inj hF
                exact J36 _ _ _ hP hD hS (lv_sub hl [0, 1, 2, 3, 4, 5, 6, 7, 8, 9] rfl)
              clear hF
              have hF := hy40
              clear hy40
              refine lv_if_eq (tgt := 160) hx hb dX4_movesApart_153 (by decide) (fun c41 => ?_) (fun c41 => ?_)
              · rw [if_pos c41] at hF
                refine lv_iconst (v := (0 : Int32)) hx hb dX4_movesApart_160 (by decide) ?_
                obtain rfl := Option.some.inj hF
                exact J40 _ _ _ hP hD hS (lv_sub hl [0, 1, 2, 3, 4, 5, 6, 7, 8, 9] rfl)
              · rw [if_neg c41] at hF
                refine lv_iconst (v := (1 : Int32)) hx hb dX4_movesApart_156 (by decide) ?_
                refine lv_goto (tgt := 161) hx hb dX4_movesApart_157 (by decide) ?_
                obtain rfl := Option.some.inj hF
                exact J40 _ _ _ hP hD hS (lv_sub hl [0, 1, 2, 3, 4, 5, 6, 7, 8, 9] rfl)
      clear hF
      have hF := hy11
      clear hy11
      refine lv_if_eq (tgt := 92) hx hb dX4_movesApart_80 (by decide) (fun c42 => ?_) (fun c42 => ?_)
      · rw [if_pos c42] at hF
        refine lv_iload hx hb dX4_movesApart_92 (lv_at hl 4 rfl) ?_
        obtain ⟨y43, hy43, hF⟩ := bnd_some hF
        have J43 : ∀ (H : Heap) (locs : List Loc) (ls : Array Slot), va_P D classes (wld ct ad G y43.2) H → va_D A (wld ct ad G y43.2) → va_S A s.heap H locs → lv_has ls 11 [(8, .int y10), (7, .int y9), (6, .int x8), (5, .int x6), (4, .int x5), (3, .int x3), (0, .ref (ad a)), (1, .int p0), (2, .int p1)] → W p l e (headSpec wsX4_movesApart ({ frames := 1, cells := 0, slots := 0, locals := 24 })).room s m ([.ref (ad a), .int p0, .int p1] : List Value).toArray below meth c H locs 0 0 (MQ below (va_Qi (fun (q : Int32) (_ : Unit) => q = y.2) (fun _ t => kE D ct ad G A y.1 t) A) ([.ref (ad a), .int p0, .int p1] : List Value).toArray s 0 0 A) (F0 m 119 ls [.int y43.1]) := by
          intro H locs ls hP hD hS hl
          obtain rfl := Option.some.inj hF
          exact J11 _ _ _ hP hD hS (lv_sub hl [0, 1, 2, 3, 4, 5, 6, 7, 8] rfl)
        clear hF
        have hF := hy43
        clear hy43
        refine lv_if_eq (tgt := 118) hx hb dX4_movesApart_94 (by decide) (fun c44 => ?_) (fun c44 => ?_)
        · rw [if_pos c44] at hF
          refine lv_iconst (v := (0 : Int32)) hx hb dX4_movesApart_118 (by decide) ?_
          obtain rfl := Option.some.inj hF
          exact J43 _ _ _ hP hD hS (lv_sub hl [0, 1, 2, 3, 4, 5, 6, 7, 8] rfl)
        · rw [if_neg c44] at hF
          refine lv_aload_n hx hb dX4_movesApart_97 rfl (lv_at hl 6 rfl) ?_
          refine lv_sipush (v := (512 : Int32)) hx hb dX4_movesApart_98 (by decide) ?_
          refine lv_iload_n hx hb dX4_movesApart_101 rfl (lv_at hl 7 rfl) ?_
          refine lv_iadd hx hb dX4_movesApart_102 ?_
          obtain ⟨x45, ex45, hF⟩ := ltt_some hF
          refine lv_topi (fun zx45 ezx45 => ?_)
          obtain rfl : x45 = zx45 := ex45.trans ezx45.symm
          refine lv_sipush (v := (512 : Int32)) hx hb dX4_movesApart_103 (by decide) ?_
          refine lv_iload_n hx hb dX4_movesApart_106 rfl (lv_at hl 8 rfl) ?_
          refine lv_iadd hx hb dX4_movesApart_107 ?_
          obtain ⟨x46, ex46, hF⟩ := ltt_some hF
          refine lv_topi (fun zx46 ezx46 => ?_)
          obtain rfl : x46 = zx46 := ex46.trans ezx46.symm
          obtain ⟨y47, hy47, hF⟩ := bnd_some hF
          have hf9 := wA_in hD hA9 hS
          refine va_calli (va_runV (As := [.int x45, .int x46]) (rest := []) ⟨hx, hb, hml, hown, hts⟩ (kX4_farApart l D ct ad Z G M H.size a x45 x46 y47 hc hk hy47) (cwV 2 hts gX4_movesApart_X4_farApart rfl rfl rfl (by decide +kernel) ⟨Nat.le_of_ble_eq_true rfl, Nat.le_of_ble_eq_true rfl⟩) ⟨fun a U g mk q => by obtain ⟨q0, q1, qP, qK, qD, qZ, qN⟩ := q; exact ⟨q0, q1, qP, va_K.moved (u := U) (U := U.calling g mk a) (Vm.Alike.refl U.vm) qK, qD, sF.moved (u := U) (U := U.calling g mk a) (Vm.Alike.refl U.vm) qZ, nF.same rfl qN⟩, va_recv hK hP (ci := 4) (q0 := a) rfl (wld_o ct ad G M hc hk (by decide)), fun U hU hW => ⟨rfl, by rw [hU], by rw [hU]; exact hP, va_K.moved hW.alike hK, hD.weaken (fun _ _ _ _ => trivial), by rw [hU]; exact ((hZ.kept hS.2.1).narrow hf9).moved hW.alike, hN.warm hW⟩⟩ rfl rfl hl.1 rfl (lv_room (Nat.le_of_ble_eq_true rfl)) dX4_movesApart_108 ⟨(Nat.zero_le _), (Nat.zero_le _)⟩) hS (fun q _ h => hf9 q h) hf9 (fun r u t H locs ht hvm hw hB hz1 hk1 hS => ?_)
          obtain ⟨hP, hK9, hD9⟩ := hB
          rw [ht] at hP
          try dsimp only at hw
          subst hw
          have hD := hD9.weaken (fun _ q _ h => hf9 q.1 h)
          obtain ⟨y48, hy48, hF⟩ := bnd_some hF
          have J48 : ∀ (H : Heap) (locs : List Loc) (ls : Array Slot), va_P D classes (wld ct ad G y47.1) H → va_D A (wld ct ad G y47.1) → va_S A s.heap H locs → lv_has ls 11 [(8, .int y10), (7, .int y9), (6, .int x8), (5, .int x6), (4, .int x5), (3, .int x3), (0, .ref (ad a)), (1, .int p0), (2, .int p1)] → W p l e (headSpec wsX4_movesApart ({ frames := 1, cells := 0, slots := 0, locals := 24 })).room s m ([.ref (ad a), .int p0, .int p1] : List Value).toArray below meth c H locs 0 0 (MQ below (va_Qi (fun (q : Int32) (_ : Unit) => q = y.2) (fun _ t => kE D ct ad G A y.1 t) A) ([.ref (ad a), .int p0, .int p1] : List Value).toArray s 0 0 A) (F0 m 119 ls [.int y48]) := by
            intro H locs ls hP hD hS hl
            obtain rfl := Option.some.inj hF
            exact J43 _ _ _ hP hD hS (lv_sub hl [0, 1, 2, 3, 4, 5, 6, 7, 8] rfl)
          clear hF
          have hF := hy48
          clear hy48
          refine lv_if_eq (tgt := 118) hx hb dX4_movesApart_111 (by decide) (fun c49 => ?_) (fun c49 => ?_)
          · rw [if_pos c49] at hF
            refine lv_iconst (v := (0 : Int32)) hx hb dX4_movesApart_118 (by decide) ?_
            obtain rfl := Option.some.inj hF
            exact J48 _ _ _ hP hD hS (lv_sub hl [0, 1, 2, 3, 4, 5, 6, 7, 8] rfl)
          · rw [if_neg c49] at hF
            refine lv_iconst (v := (1 : Int32)) hx hb dX4_movesApart_114 (by decide) ?_
            refine lv_goto (tgt := 119) hx hb dX4_movesApart_115 (by decide) ?_
            obtain rfl := Option.some.inj hF
            exact J48 _ _ _ hP hD hS (lv_sub hl [0, 1, 2, 3, 4, 5, 6, 7, 8] rfl)
      · rw [if_neg c42] at hF
        refine lv_aload_n hx hb dX4_movesApart_83 rfl (lv_at hl 6 rfl) ?_
        refine lv_iload_n hx hb dX4_movesApart_84 rfl (lv_at hl 7 rfl) ?_
        refine lv_iload_n hx hb dX4_movesApart_85 rfl (lv_at hl 8 rfl) ?_
        obtain ⟨y50, hy50, hF⟩ := bnd_some hF
        have hf9 := wA_in hD hA9 hS
        refine va_calli (va_runV (As := [.int p0, .int p1]) (rest := []) ⟨hx, hb, hml, hown, hts⟩ (kX4_farApart l D ct ad Z G M H.size a p0 p1 y50 hc hk hy50) (cwV 2 hts gX4_movesApart_X4_farApart rfl rfl rfl (by decide +kernel) ⟨Nat.le_of_ble_eq_true rfl, Nat.le_of_ble_eq_true rfl⟩) ⟨fun a U g mk q => by obtain ⟨q0, q1, qP, qK, qD, qZ, qN⟩ := q; exact ⟨q0, q1, qP, va_K.moved (u := U) (U := U.calling g mk a) (Vm.Alike.refl U.vm) qK, qD, sF.moved (u := U) (U := U.calling g mk a) (Vm.Alike.refl U.vm) qZ, nF.same rfl qN⟩, va_recv hK hP (ci := 4) (q0 := a) rfl (wld_o ct ad G M hc hk (by decide)), fun U hU hW => ⟨rfl, by rw [hU], by rw [hU]; exact hP, va_K.moved hW.alike hK, hD.weaken (fun _ _ _ _ => trivial), by rw [hU]; exact ((hZ.kept hS.2.1).narrow hf9).moved hW.alike, hN.warm hW⟩⟩ rfl rfl hl.1 rfl (lv_room (Nat.le_of_ble_eq_true rfl)) dX4_movesApart_86 ⟨(Nat.zero_le _), (Nat.zero_le _)⟩) hS (fun q _ h => hf9 q h) hf9 (fun r u t H locs ht hvm hw hB hz1 hk1 hS => ?_)
        obtain ⟨hP, hK9, hD9⟩ := hB
        rw [ht] at hP
        try dsimp only at hw
        subst hw
        have hD := hD9.weaken (fun _ q _ h => hf9 q.1 h)
        obtain ⟨y51, hy51, hF⟩ := bnd_some hF
        have J51 : ∀ (H : Heap) (locs : List Loc) (ls : Array Slot), va_P D classes (wld ct ad G y51.2) H → va_D A (wld ct ad G y51.2) → va_S A s.heap H locs → lv_has ls 11 [(8, .int y10), (7, .int y9), (6, .int x8), (5, .int x6), (4, .int x5), (3, .int x3), (0, .ref (ad a)), (1, .int p0), (2, .int p1)] → W p l e (headSpec wsX4_movesApart ({ frames := 1, cells := 0, slots := 0, locals := 24 })).room s m ([.ref (ad a), .int p0, .int p1] : List Value).toArray below meth c H locs 0 0 (MQ below (va_Qi (fun (q : Int32) (_ : Unit) => q = y.2) (fun _ t => kE D ct ad G A y.1 t) A) ([.ref (ad a), .int p0, .int p1] : List Value).toArray s 0 0 A) (F0 m 119 ls [.int y51.1]) := by
          intro H locs ls hP hD hS hl
          obtain rfl := Option.some.inj hF
          exact J11 _ _ _ hP hD hS (lv_sub hl [0, 1, 2, 3, 4, 5, 6, 7, 8] rfl)
        clear hF
        have hF := hy51
        clear hy51
        refine lv_if_ne (tgt := 114) hx hb dX4_movesApart_89 (by decide) (fun c52 => ?_) (fun c52 => ?_)
        · rw [if_neg c52] at hF
          refine lv_iconst (v := (1 : Int32)) hx hb dX4_movesApart_114 (by decide) ?_
          refine lv_goto (tgt := 119) hx hb dX4_movesApart_115 (by decide) ?_
          obtain rfl := Option.some.inj hF
          exact J51 _ _ _ hP hD hS (lv_sub hl [0, 1, 2, 3, 4, 5, 6, 7, 8] rfl)
        · rw [if_pos c52] at hF
          refine lv_iload hx hb dX4_movesApart_92 (lv_at hl 4 rfl) ?_
          obtain ⟨y53, hy53, hF⟩ := bnd_some hF
          have J53 : ∀ (H : Heap) (locs : List Loc) (ls : Array Slot), va_P D classes (wld ct ad G y53.2) H → va_D A (wld ct ad G y53.2) → va_S A s.heap H locs → lv_has ls 11 [(8, .int y10), (7, .int y9), (6, .int x8), (5, .int x6), (4, .int x5), (3, .int x3), (0, .ref (ad a)), (1, .int p0), (2, .int p1)] → W p l e (headSpec wsX4_movesApart ({ frames := 1, cells := 0, slots := 0, locals := 24 })).room s m ([.ref (ad a), .int p0, .int p1] : List Value).toArray below meth c H locs 0 0 (MQ below (va_Qi (fun (q : Int32) (_ : Unit) => q = y.2) (fun _ t => kE D ct ad G A y.1 t) A) ([.ref (ad a), .int p0, .int p1] : List Value).toArray s 0 0 A) (F0 m 119 ls [.int y53.1]) := by
            intro H locs ls hP hD hS hl
            obtain rfl := Option.some.inj hF
            exact J51 _ _ _ hP hD hS (lv_sub hl [0, 1, 2, 3, 4, 5, 6, 7, 8] rfl)
          clear hF
          have hF := hy53
          clear hy53
          refine lv_if_eq (tgt := 118) hx hb dX4_movesApart_94 (by decide) (fun c54 => ?_) (fun c54 => ?_)
          · rw [if_pos c54] at hF
            refine lv_iconst (v := (0 : Int32)) hx hb dX4_movesApart_118 (by decide) ?_
            obtain rfl := Option.some.inj hF
            exact J53 _ _ _ hP hD hS (lv_sub hl [0, 1, 2, 3, 4, 5, 6, 7, 8] rfl)
          · rw [if_neg c54] at hF
            refine lv_aload_n hx hb dX4_movesApart_97 rfl (lv_at hl 6 rfl) ?_
            refine lv_sipush (v := (512 : Int32)) hx hb dX4_movesApart_98 (by decide) ?_
            refine lv_iload_n hx hb dX4_movesApart_101 rfl (lv_at hl 7 rfl) ?_
            refine lv_iadd hx hb dX4_movesApart_102 ?_
            obtain ⟨x55, ex55, hF⟩ := ltt_some hF
            refine lv_topi (fun zx55 ezx55 => ?_)
            obtain rfl : x55 = zx55 := ex55.trans ezx55.symm
            refine lv_sipush (v := (512 : Int32)) hx hb dX4_movesApart_103 (by decide) ?_
            refine lv_iload_n hx hb dX4_movesApart_106 rfl (lv_at hl 8 rfl) ?_
            refine lv_iadd hx hb dX4_movesApart_107 ?_
            obtain ⟨x56, ex56, hF⟩ := ltt_some hF
            refine lv_topi (fun zx56 ezx56 => ?_)
            obtain rfl : x56 = zx56 := ex56.trans ezx56.symm
            obtain ⟨y57, hy57, hF⟩ := bnd_some hF
            have hf9 := wA_in hD hA9 hS
            refine va_calli (va_runV (As := [.int x55, .int x56]) (rest := []) ⟨hx, hb, hml, hown, hts⟩ (kX4_farApart l D ct ad Z G y50.1 H.size a x55 x56 y57 hc hk hy57) (cwV 2 hts gX4_movesApart_X4_farApart rfl rfl rfl (by decide +kernel) ⟨Nat.le_of_ble_eq_true rfl, Nat.le_of_ble_eq_true rfl⟩) ⟨fun a U g mk q => by obtain ⟨q0, q1, qP, qK, qD, qZ, qN⟩ := q; exact ⟨q0, q1, qP, va_K.moved (u := U) (U := U.calling g mk a) (Vm.Alike.refl U.vm) qK, qD, sF.moved (u := U) (U := U.calling g mk a) (Vm.Alike.refl U.vm) qZ, nF.same rfl qN⟩, va_recv hK hP (ci := 4) (q0 := a) rfl (wld_o ct ad G y50.1 hc hk (by decide)), fun U hU hW => ⟨rfl, by rw [hU], by rw [hU]; exact hP, va_K.moved hW.alike hK, hD.weaken (fun _ _ _ _ => trivial), by rw [hU]; exact ((hZ.kept hS.2.1).narrow hf9).moved hW.alike, hN.warm hW⟩⟩ rfl rfl hl.1 rfl (lv_room (Nat.le_of_ble_eq_true rfl)) dX4_movesApart_108 ⟨(Nat.zero_le _), (Nat.zero_le _)⟩) hS (fun q _ h => hf9 q h) hf9 (fun r u t H locs ht hvm hw hB hz1 hk1 hS => ?_)
            obtain ⟨hP, hK9, hD9⟩ := hB
            rw [ht] at hP
            try dsimp only at hw
            subst hw
            have hD := hD9.weaken (fun _ q _ h => hf9 q.1 h)
            obtain ⟨y58, hy58, hF⟩ := bnd_some hF
            have J58 : ∀ (H : Heap) (locs : List Loc) (ls : Array Slot), va_P D classes (wld ct ad G y57.1) H → va_D A (wld ct ad G y57.1) → va_S A s.heap H locs → lv_has ls 11 [(8, .int y10), (7, .int y9), (6, .int x8), (5, .int x6), (4, .int x5), (3, .int x3), (0, .ref (ad a)), (1, .int p0), (2, .int p1)] → W p l e (headSpec wsX4_movesApart ({ frames := 1, cells := 0, slots := 0, locals := 24 })).room s m ([.ref (ad a), .int p0, .int p1] : List Value).toArray below meth c H locs 0 0 (MQ below (va_Qi (fun (q : Int32) (_ : Unit) => q = y.2) (fun _ t => kE D ct ad G A y.1 t) A) ([.ref (ad a), .int p0, .int p1] : List Value).toArray s 0 0 A) (F0 m 119 ls [.int y58]) := by
              intro H locs ls hP hD hS hl
              obtain rfl := Option.some.inj hF
              exact J53 _ _ _ hP hD hS (lv_sub hl [0, 1, 2, 3, 4, 5, 6, 7, 8] rfl)
            clear hF
            have hF := hy58
            clear hy58
            refine lv_if_eq (tgt := 118) hx hb dX4_movesApart_111 (by decide) (fun c59 => ?_) (fun c59 => ?_)
            · rw [if_pos c59] at hF
              refine lv_iconst (v := (0 : Int32)) hx hb dX4_movesApart_118 (by decide) ?_
              obtain rfl := Option.some.inj hF
              exact J58 _ _ _ hP hD hS (lv_sub hl [0, 1, 2, 3, 4, 5, 6, 7, 8] rfl)
            · rw [if_neg c59] at hF
              refine lv_iconst (v := (1 : Int32)) hx hb dX4_movesApart_114 (by decide) ?_
              refine lv_goto (tgt := 119) hx hb dX4_movesApart_115 (by decide) ?_
              obtain rfl := Option.some.inj hF
              exact J58 _ _ _ hP hD hS (lv_sub hl [0, 1, 2, 3, 4, 5, 6, 7, 8] rfl)
    clear hF
    have hF := hy10
    clear hy10
    refine lv_icmp_ne (tgt := 76) hx hb dX4_movesApart_62 (by decide) (fun c60 => ?_) (fun c60 => ?_)
    · rw [if_neg c60] at hF
      refine lv_iconst (v := (0 : Int32)) hx hb dX4_movesApart_76 (by decide) ?_
      obtain rfl := Option.some.inj hF
      exact J10 _ _ _ hP hD hS (lv_sub hl [0, 1, 2, 3, 4, 5, 6, 7] rfl)
    · rw [if_pos c60] at hF
      refine lv_iload hx hb dX4_movesApart_65 (lv_at hl 3 rfl) ?_
      refine lv_iload hx hb dX4_movesApart_67 (lv_at hl 2 rfl) ?_
      obtain ⟨y61, hy61, hF⟩ := bnd_some hF
      have J61 : ∀ (H : Heap) (locs : List Loc) (ls : Array Slot), va_P D classes (wld ct ad G M) H → va_D A (wld ct ad G M) → va_S A s.heap H locs → lv_has ls 11 [(7, .int y9), (6, .int x8), (5, .int x6), (4, .int x5), (3, .int x3), (0, .ref (ad a)), (1, .int p0), (2, .int p1)] → W p l e (headSpec wsX4_movesApart ({ frames := 1, cells := 0, slots := 0, locals := 24 })).room s m ([.ref (ad a), .int p0, .int p1] : List Value).toArray below meth c H locs 0 0 (MQ below (va_Qi (fun (q : Int32) (_ : Unit) => q = y.2) (fun _ t => kE D ct ad G A y.1 t) A) ([.ref (ad a), .int p0, .int p1] : List Value).toArray s 0 0 A) (F0 m 77 ls [.int y61]) := by
        intro H locs ls hP hD hS hl
        obtain rfl := Option.some.inj hF
        exact J10 _ _ _ hP hD hS (lv_sub hl [0, 1, 2, 3, 4, 5, 6, 7] rfl)
      clear hF
      have hF := hy61
      clear hy61
      refine lv_icmp_ne (tgt := 76) hx hb dX4_movesApart_69 (by decide) (fun c62 => ?_) (fun c62 => ?_)
      · rw [if_neg c62] at hF
        refine lv_iconst (v := (0 : Int32)) hx hb dX4_movesApart_76 (by decide) ?_
        obtain rfl := Option.some.inj hF
        exact J61 _ _ _ hP hD hS (lv_sub hl [0, 1, 2, 3, 4, 5, 6, 7] rfl)
      · rw [if_pos c62] at hF
        refine lv_iconst (v := (1 : Int32)) hx hb dX4_movesApart_72 (by decide) ?_
        refine lv_goto (tgt := 77) hx hb dX4_movesApart_73 (by decide) ?_
        obtain rfl := Option.some.inj hF
        exact J61 _ _ _ hP hD hS (lv_sub hl [0, 1, 2, 3, 4, 5, 6, 7] rfl)
  clear hF
  have hF := hy9
  clear hy9
  refine lv_icmp_ne (tgt := 56) hx hb dX4_movesApart_42 (by decide) (fun c63 => ?_) (fun c63 => ?_)
  · rw [if_neg c63] at hF
    refine lv_iconst (v := (0 : Int32)) hx hb dX4_movesApart_56 (by decide) ?_
    obtain rfl := Option.some.inj hF
    exact J9 _ _ _ hP hD hS (lv_sub hl [0, 1, 2, 3, 4, 5, 6] rfl)
  · rw [if_pos c63] at hF
    refine lv_iload hx hb dX4_movesApart_45 (lv_at hl 2 rfl) ?_
    refine lv_iload hx hb dX4_movesApart_47 (lv_at hl 0 rfl) ?_
    obtain ⟨y64, hy64, hF⟩ := bnd_some hF
    have J64 : ∀ (H : Heap) (locs : List Loc) (ls : Array Slot), va_P D classes (wld ct ad G M) H → va_D A (wld ct ad G M) → va_S A s.heap H locs → lv_has ls 11 [(6, .int x8), (5, .int x6), (4, .int x5), (3, .int x3), (0, .ref (ad a)), (1, .int p0), (2, .int p1)] → W p l e (headSpec wsX4_movesApart ({ frames := 1, cells := 0, slots := 0, locals := 24 })).room s m ([.ref (ad a), .int p0, .int p1] : List Value).toArray below meth c H locs 0 0 (MQ below (va_Qi (fun (q : Int32) (_ : Unit) => q = y.2) (fun _ t => kE D ct ad G A y.1 t) A) ([.ref (ad a), .int p0, .int p1] : List Value).toArray s 0 0 A) (F0 m 57 ls [.int y64]) := by
      intro H locs ls hP hD hS hl
      obtain rfl := Option.some.inj hF
      exact J9 _ _ _ hP hD hS (lv_sub hl [0, 1, 2, 3, 4, 5, 6] rfl)
    clear hF
    have hF := hy64
    clear hy64
    refine lv_icmp_ne (tgt := 56) hx hb dX4_movesApart_49 (by decide) (fun c65 => ?_) (fun c65 => ?_)
    · rw [if_neg c65] at hF
      refine lv_iconst (v := (0 : Int32)) hx hb dX4_movesApart_56 (by decide) ?_
      obtain rfl := Option.some.inj hF
      exact J64 _ _ _ hP hD hS (lv_sub hl [0, 1, 2, 3, 4, 5, 6] rfl)
    · rw [if_pos c65] at hF
      refine lv_iconst (v := (1 : Int32)) hx hb dX4_movesApart_52 (by decide) ?_
      refine lv_goto (tgt := 57) hx hb dX4_movesApart_53 (by decide) ?_
      obtain rfl := Option.some.inj hF
      exact J64 _ _ _ hP hD hS (lv_sub hl [0, 1, 2, 3, 4, 5, 6] rfl)
theorem dX4_wide_0 : decode cX4_wide 0 = .ok (.iload_n 1, 1) := by decide +kernel
theorem dX4_wide_1 : decode cX4_wide 1 = .ok (.ifCond .ne 13, 3) := by decide +kernel
theorem dX4_wide_4 : decode cX4_wide 4 = .ok (.bipush 16, 2) := by decide +kernel
theorem dX4_wide_6 : decode cX4_wide 6 = .ok (.aload_n 0, 1) := by decide +kernel
theorem dX4_wide_7 : decode cX4_wide 7 = .ok (.getfield 33, 3) := by decide +kernel
theorem dX4_wide_10 : decode cX4_wide 10 = .ok (.imul, 1) := by decide +kernel
theorem dX4_wide_11 : decode cX4_wide 11 = .ok (.goto 10, 3) := by decide +kernel
theorem dX4_wide_14 : decode cX4_wide 14 = .ok (.bipush 8, 2) := by decide +kernel
theorem dX4_wide_16 : decode cX4_wide 16 = .ok (.aload_n 0, 1) := by decide +kernel
theorem dX4_wide_17 : decode cX4_wide 17 = .ok (.getfield 33, 3) := by decide +kernel
theorem dX4_wide_20 : decode cX4_wide 20 = .ok (.imul, 1) := by decide +kernel
theorem dX4_wide_21 : decode cX4_wide 21 = .ok (.ireturn, 1) := by decide +kernel
def FX4_wide (G : GG) (M : DD) (a : Nat) (p0 : Int32) : Option (DD × Int32) :=
  bnd (if p0 = ((0 : Int32)) then (ltt (M.1 a 1) fun x5 =>
  ltt ((((16 : Int32)) * x5)) fun x6 =>
  some (x6)) else
  (ltt (M.1 a 1) fun x3 =>
  ltt ((((8 : Int32)) * x3)) fun x4 =>
  some (x4))) fun (y1 : Int32) =>
  some (M, y1)
set_option maxHeartbeats 4000000 in
set_option maxRecDepth 100000 in
theorem kX4_wide (l : Launch) (D : va_G) (ct : CT) (ad : Nat → Nat) (Z : Nat → Nat) (G : GG) (M : DD) (sz : Nat) (a : Nat) (p0 : Int32) (y : DD × Int32) (hc : a < G.1) (hk : G.2.1 a = 4) (hF : FX4_wide G M a p0 = some y) : Met l yX4_wide wsX4_wide ({ frames := 0, cells := 0, slots := 0, locals := 0 }) (va_Pc [.ref (ad a), .int p0] (kB D ct ad Z G M sz)) (va_Qi (fun (q : Int32) (_ : Unit) => q = y.2) (fun _ t => kE D ct ad G (wA ad G sz) y.1 t) (wA ad G sz)) 0 0 (wA ad G sz) := by
  refine Met.ofW (cc := cX4_wide) (maxL := 2) (ret := (some .int)) (by decide) rfl ?_
  intro p e s m args below meth c s₁ B hml hv
  obtain ⟨rfl, hsz, hP, hK, hD0, hZ, hN⟩ := hv
  have hx := B.exec
  have hb := B.bytes
  have hr := B.returns
  have hts := atoms_spec (ws := wsX4_wide) B.pre
  have hown : s.vm.findClass RX4 = some m.cls := findClass_of_methodNamed B.named
  have hlocks := B.notSynchronized
  subst hsz
  have hD := wD_self (sz := s.heap.size) hD0
  have hA9 : ∀ q, s.heap.size ≤ q → wA ad G s.heap.size q := fun q h => Or.inr h
  generalize hAe : wA ad G s.heap.size = A at hD hA9 hZ ⊢
  have hS : va_S A s.heap s.heap [] := va_S.rf
  have hl := lv_entry ([.ref (ad a), .int p0]) (n := 2) (Nat.le_of_ble_eq_true rfl)
  rw [lg_entry_eq]
  generalize (lg_sl ([.ref (ad a), .int p0]) ++ List.replicate (2 - (lg_sl ([.ref (ad a), .int p0])).length) Slot.unset).toArray = ls at hl ⊢
  have hl : lv_has ls 2 [(0, .ref (ad a)), (1, .int p0)] := hl
  unfold FX4_wide at hF
  refine lv_iload_n hx hb dX4_wide_0 rfl (lv_at hl 1 rfl) ?_
  obtain ⟨y1, hy1, hF⟩ := bnd_some hF
  have J1 : ∀ (H : Heap) (locs : List Loc) (ls : Array Slot), va_P D classes (wld ct ad G M) H → va_D A (wld ct ad G M) → va_S A s.heap H locs → lv_has ls 2 [(0, .ref (ad a)), (1, .int p0)] → W p l e (headSpec wsX4_wide ({ frames := 0, cells := 0, slots := 0, locals := 0 })).room s m ([.ref (ad a), .int p0] : List Value).toArray below meth c H locs 0 0 (MQ below (va_Qi (fun (q : Int32) (_ : Unit) => q = y.2) (fun _ t => kE D ct ad G A y.1 t) A) ([.ref (ad a), .int p0] : List Value).toArray s 0 0 A) (F0 m 21 ls [.int y1]) := by
    intro H locs ls hP hD hS hl
    obtain rfl := Option.some.inj hF
    exact W.iret (v := y1) hx hb hr (fun t ht hW => ⟨⟨_, (), rfl, rfl, ⟨by rw [ht]; exact hP, va_K.moved hW.alike hK, hD⟩⟩, hS.F ht⟩) hS.2.2 dX4_wide_21
  clear hF
  have hF := hy1
  clear hy1
  refine lv_if_ne (tgt := 14) hx hb dX4_wide_1 (by decide) (fun c2 => ?_) (fun c2 => ?_)
  · rw [if_neg c2] at hF
    refine lv_bipush (v := (8 : Int32)) hx hb dX4_wide_14 (by decide) ?_
    refine lv_aload_n hx hb dX4_wide_16 rfl (lv_at hl 0 rfl) ?_
    refine va_get (D := D) (ci := 4) (v := .int (M.1 a 1)) (C := RX4) (T := TX4) (N := 18) hx hb hts (by decide +kernel) hown hK hP a (wld_o ct ad G M hc hk (by decide)) rfl 1 (by decide) (hts (.fieldLink RX4 33 "VideoSuite$Picture" "width" "I") (by decide +kernel)) (fun _ h9 => h9) rfl dX4_wide_17 ?_
    obtain ⟨x3, ex3, hF⟩ := ltt_some hF
    refine lv_topi (fun zx3 ezx3 => ?_)
    obtain rfl : x3 = zx3 := ex3.trans ezx3.symm
    refine lv_imul hx hb dX4_wide_20 ?_
    obtain ⟨x4, ex4, hF⟩ := ltt_some hF
    refine lv_topi (fun zx4 ezx4 => ?_)
    obtain rfl : x4 = zx4 := ex4.trans ezx4.symm
    obtain rfl := Option.some.inj hF
    exact J1 _ _ _ hP hD hS (lv_sub hl [0, 1] rfl)
  · rw [if_pos c2] at hF
    refine lv_bipush (v := (16 : Int32)) hx hb dX4_wide_4 (by decide) ?_
    refine lv_aload_n hx hb dX4_wide_6 rfl (lv_at hl 0 rfl) ?_
    refine va_get (D := D) (ci := 4) (v := .int (M.1 a 1)) (C := RX4) (T := TX4) (N := 18) hx hb hts (by decide +kernel) hown hK hP a (wld_o ct ad G M hc hk (by decide)) rfl 1 (by decide) (hts (.fieldLink RX4 33 "VideoSuite$Picture" "width" "I") (by decide +kernel)) (fun _ h9 => h9) rfl dX4_wide_7 ?_
    obtain ⟨x5, ex5, hF⟩ := ltt_some hF
    refine lv_topi (fun zx5 ezx5 => ?_)
    obtain rfl : x5 = zx5 := ex5.trans ezx5.symm
    refine lv_imul hx hb dX4_wide_10 ?_
    obtain ⟨x6, ex6, hF⟩ := ltt_some hF
    refine lv_topi (fun zx6 ezx6 => ?_)
    obtain rfl : x6 = zx6 := ex6.trans ezx6.symm
    refine lv_goto (tgt := 21) hx hb dX4_wide_11 (by decide) ?_
    obtain rfl := Option.some.inj hF
    exact J1 _ _ _ hP hD hS (lv_sub hl [0, 1] rfl)
theorem dX5_bit_0 : decode cX5_bit 0 = .ok (.iconst 0, 1) := by decide +kernel
theorem dX5_bit_1 : decode cX5_bit 1 = .ok (.istore_n 3, 1) := by decide +kernel
theorem dX5_bit_2 : decode cX5_bit 2 = .ok (.aload_n 0, 1) := by decide +kernel
theorem dX5_bit_3 : decode cX5_bit 3 = .ok (.getfield 66, 3) := by decide +kernel
theorem dX5_bit_6 : decode cX5_bit 6 = .ok (.ifCond .eq 169, 3) := by decide +kernel
theorem dX5_bit_9 : decode cX5_bit 9 = .ok (.bipush 16, 2) := by decide +kernel
theorem dX5_bit_11 : decode cX5_bit 11 = .ok (.iload_n 1, 1) := by decide +kernel
theorem dX5_bit_12 : decode cX5_bit 12 = .ok (.imul, 1) := by decide +kernel
theorem dX5_bit_13 : decode cX5_bit 13 = .ok (.iload_n 2, 1) := by decide +kernel
theorem dX5_bit_14 : decode cX5_bit 14 = .ok (.bipush 15, 2) := by decide +kernel
theorem dX5_bit_16 : decode cX5_bit 16 = .ok (.if_icmp .ge 7, 3) := by decide +kernel
theorem dX5_bit_19 : decode cX5_bit 19 = .ok (.iload_n 2, 1) := by decide +kernel
theorem dX5_bit_20 : decode cX5_bit 20 = .ok (.goto 5, 3) := by decide +kernel
theorem dX5_bit_23 : decode cX5_bit 23 = .ok (.bipush 15, 2) := by decide +kernel
theorem dX5_bit_25 : decode cX5_bit 25 = .ok (.iadd, 1) := by decide +kernel
theorem dX5_bit_26 : decode cX5_bit 26 = .ok (.istore 4, 2) := by decide +kernel
theorem dX5_bit_28 : decode cX5_bit 28 = .ok (.aload_n 0, 1) := by decide +kernel
theorem dX5_bit_29 : decode cX5_bit 29 = .ok (.getfield 11, 3) := by decide +kernel
theorem dX5_bit_32 : decode cX5_bit 32 = .ok (.iload 4, 2) := by decide +kernel
theorem dX5_bit_34 : decode cX5_bit 34 = .ok (.iaload, 1) := by decide +kernel
theorem dX5_bit_35 : decode cX5_bit 35 = .ok (.iconst 1, 1) := by decide +kernel
theorem dX5_bit_36 : decode cX5_bit 36 = .ok (.ishr, 1) := by decide +kernel
theorem dX5_bit_37 : decode cX5_bit 37 = .ok (.istore 5, 2) := by decide +kernel
theorem dX5_bit_39 : decode cX5_bit 39 = .ok (.aload_n 0, 1) := by decide +kernel
theorem dX5_bit_40 : decode cX5_bit 40 = .ok (.getfield 11, 3) := by decide +kernel
theorem dX5_bit_43 : decode cX5_bit 43 = .ok (.iload 4, 2) := by decide +kernel
theorem dX5_bit_45 : decode cX5_bit 45 = .ok (.iaload, 1) := by decide +kernel
theorem dX5_bit_46 : decode cX5_bit 46 = .ok (.iconst 1, 1) := by decide +kernel
theorem dX5_bit_47 : decode cX5_bit 47 = .ok (.iand, 1) := by decide +kernel
theorem dX5_bit_48 : decode cX5_bit 48 = .ok (.istore 6, 2) := by decide +kernel
theorem dX5_bit_50 : decode cX5_bit 50 = .ok (.getstatic 93, 3) := by decide +kernel
theorem dX5_bit_53 : decode cX5_bit 53 = .ok (.iconst 4, 1) := by decide +kernel
theorem dX5_bit_54 : decode cX5_bit 54 = .ok (.iload 5, 2) := by decide +kernel
theorem dX5_bit_56 : decode cX5_bit 56 = .ok (.imul, 1) := by decide +kernel
theorem dX5_bit_57 : decode cX5_bit 57 = .ok (.aload_n 0, 1) := by decide +kernel
theorem dX5_bit_58 : decode cX5_bit 58 = .ok (.getfield 96, 3) := by decide +kernel
theorem dX5_bit_61 : decode cX5_bit 61 = .ok (.bipush 6, 2) := by decide +kernel
theorem dX5_bit_63 : decode cX5_bit 63 = .ok (.ishr, 1) := by decide +kernel
theorem dX5_bit_64 : decode cX5_bit 64 = .ok (.iconst 3, 1) := by decide +kernel
theorem dX5_bit_65 : decode cX5_bit 65 = .ok (.iand, 1) := by decide +kernel
theorem dX5_bit_66 : decode cX5_bit 66 = .ok (.iadd, 1) := by decide +kernel
theorem dX5_bit_67 : decode cX5_bit 67 = .ok (.iaload, 1) := by decide +kernel
theorem dX5_bit_68 : decode cX5_bit 68 = .ok (.istore 7, 2) := by decide +kernel
theorem dX5_bit_70 : decode cX5_bit 70 = .ok (.iload 6, 2) := by decide +kernel
theorem dX5_bit_72 : decode cX5_bit 72 = .ok (.istore_n 3, 1) := by decide +kernel
theorem dX5_bit_73 : decode cX5_bit 73 = .ok (.aload_n 0, 1) := by decide +kernel
theorem dX5_bit_74 : decode cX5_bit 74 = .ok (.dup, 1) := by decide +kernel
theorem dX5_bit_75 : decode cX5_bit 75 = .ok (.getfield 96, 3) := by decide +kernel
theorem dX5_bit_78 : decode cX5_bit 78 = .ok (.iload 7, 2) := by decide +kernel
theorem dX5_bit_80 : decode cX5_bit 80 = .ok (.isub, 1) := by decide +kernel
theorem dX5_bit_81 : decode cX5_bit 81 = .ok (.putfield 96, 3) := by decide +kernel
theorem dX5_bit_84 : decode cX5_bit 84 = .ok (.aload_n 0, 1) := by decide +kernel
theorem dX5_bit_85 : decode cX5_bit 85 = .ok (.getfield 99, 3) := by decide +kernel
theorem dX5_bit_88 : decode cX5_bit 88 = .ok (.aload_n 0, 1) := by decide +kernel
theorem dX5_bit_89 : decode cX5_bit 89 = .ok (.getfield 96, 3) := by decide +kernel
theorem dX5_bit_92 : decode cX5_bit 92 = .ok (.if_icmp .ge 24, 3) := by decide +kernel
theorem dX5_bit_95 : decode cX5_bit 95 = .ok (.iload 5, 2) := by decide +kernel
theorem dX5_bit_97 : decode cX5_bit 97 = .ok (.bipush 62, 2) := by decide +kernel
theorem dX5_bit_99 : decode cX5_bit 99 = .ok (.if_icmp .ge 10, 3) := by decide +kernel
theorem dX5_bit_102 : decode cX5_bit 102 = .ok (.iload 5, 2) := by decide +kernel
theorem dX5_bit_104 : decode cX5_bit 104 = .ok (.iconst 1, 1) := by decide +kernel
theorem dX5_bit_105 : decode cX5_bit 105 = .ok (.iadd, 1) := by decide +kernel
theorem dX5_bit_106 : decode cX5_bit 106 = .ok (.goto 5, 3) := by decide +kernel
theorem dX5_bit_109 : decode cX5_bit 109 = .ok (.bipush 62, 2) := by decide +kernel
theorem dX5_bit_111 : decode cX5_bit 111 = .ok (.istore 5, 2) := by decide +kernel
theorem dX5_bit_113 : decode cX5_bit 113 = .ok (.goto 48, 3) := by decide +kernel
theorem dX5_bit_116 : decode cX5_bit 116 = .ok (.iconst 1, 1) := by decide +kernel
theorem dX5_bit_117 : decode cX5_bit 117 = .ok (.iload 6, 2) := by decide +kernel
theorem dX5_bit_119 : decode cX5_bit 119 = .ok (.isub, 1) := by decide +kernel
theorem dX5_bit_120 : decode cX5_bit 120 = .ok (.istore_n 3, 1) := by decide +kernel
theorem dX5_bit_121 : decode cX5_bit 121 = .ok (.aload_n 0, 1) := by decide +kernel
theorem dX5_bit_122 : decode cX5_bit 122 = .ok (.dup, 1) := by decide +kernel
theorem dX5_bit_123 : decode cX5_bit 123 = .ok (.getfield 99, 3) := by decide +kernel
theorem dX5_bit_126 : decode cX5_bit 126 = .ok (.aload_n 0, 1) := by decide +kernel
theorem dX5_bit_127 : decode cX5_bit 127 = .ok (.getfield 96, 3) := by decide +kernel
theorem dX5_bit_130 : decode cX5_bit 130 = .ok (.isub, 1) := by decide +kernel
theorem dX5_bit_131 : decode cX5_bit 131 = .ok (.putfield 99, 3) := by decide +kernel
theorem dX5_bit_134 : decode cX5_bit 134 = .ok (.aload_n 0, 1) := by decide +kernel
theorem dX5_bit_135 : decode cX5_bit 135 = .ok (.iload 7, 2) := by decide +kernel
theorem dX5_bit_137 : decode cX5_bit 137 = .ok (.putfield 96, 3) := by decide +kernel
theorem dX5_bit_140 : decode cX5_bit 140 = .ok (.iload 5, 2) := by decide +kernel
theorem dX5_bit_142 : decode cX5_bit 142 = .ok (.ifCond .ne 7, 3) := by decide +kernel
theorem dX5_bit_145 : decode cX5_bit 145 = .ok (.iload_n 3, 1) := by decide +kernel
theorem dX5_bit_146 : decode cX5_bit 146 = .ok (.goto 5, 3) := by decide +kernel
theorem dX5_bit_149 : decode cX5_bit 149 = .ok (.iload 6, 2) := by decide +kernel
theorem dX5_bit_151 : decode cX5_bit 151 = .ok (.istore 6, 2) := by decide +kernel
theorem dX5_bit_153 : decode cX5_bit 153 = .ok (.getstatic 102, 3) := by decide +kernel
theorem dX5_bit_156 : decode cX5_bit 156 = .ok (.iload 5, 2) := by decide +kernel
theorem dX5_bit_158 : decode cX5_bit 158 = .ok (.iaload, 1) := by decide +kernel
theorem dX5_bit_159 : decode cX5_bit 159 = .ok (.istore 5, 2) := by decide +kernel
theorem dX5_bit_161 : decode cX5_bit 161 = .ok (.aload_n 0, 1) := by decide +kernel
theorem dX5_bit_162 : decode cX5_bit 162 = .ok (.getfield 11, 3) := by decide +kernel
theorem dX5_bit_165 : decode cX5_bit 165 = .ok (.iload 4, 2) := by decide +kernel
theorem dX5_bit_167 : decode cX5_bit 167 = .ok (.iload 5, 2) := by decide +kernel
theorem dX5_bit_169 : decode cX5_bit 169 = .ok (.iconst 1, 1) := by decide +kernel
theorem dX5_bit_170 : decode cX5_bit 170 = .ok (.ishl, 1) := by decide +kernel
theorem dX5_bit_171 : decode cX5_bit 171 = .ok (.iload 6, 2) := by decide +kernel
theorem dX5_bit_173 : decode cX5_bit 173 = .ok (.ior, 1) := by decide +kernel
theorem dX5_bit_174 : decode cX5_bit 174 = .ok (.iastore, 1) := by decide +kernel
theorem dX5_bit_175 : decode cX5_bit 175 = .ok (.iconst 0, 1) := by decide +kernel
theorem dX5_bit_176 : decode cX5_bit 176 = .ok (.istore 4, 2) := by decide +kernel
theorem dX5_bit_178 : decode cX5_bit 178 = .ok (.iload 4, 2) := by decide +kernel
theorem dX5_bit_180 : decode cX5_bit 180 = .ok (.bipush 9, 2) := by decide +kernel
theorem dX5_bit_182 : decode cX5_bit 182 = .ok (.if_icmp .ge 157, 3) := by decide +kernel
theorem dX5_bit_185 : decode cX5_bit 185 = .ok (.aload_n 0, 1) := by decide +kernel
theorem dX5_bit_186 : decode cX5_bit 186 = .ok (.getfield 66, 3) := by decide +kernel
theorem dX5_bit_189 : decode cX5_bit 189 = .ok (.ifCond .eq 16, 3) := by decide +kernel
theorem dX5_bit_192 : decode cX5_bit 192 = .ok (.aload_n 0, 1) := by decide +kernel
theorem dX5_bit_193 : decode cX5_bit 193 = .ok (.getfield 96, 3) := by decide +kernel
theorem dX5_bit_196 : decode cX5_bit 196 = .ok (.sipush 256, 3) := by decide +kernel
theorem dX5_bit_199 : decode cX5_bit 199 = .ok (.if_icmp .ge 140, 3) := by decide +kernel
theorem dX5_bit_202 : decode cX5_bit 202 = .ok (.goto 9, 3) := by decide +kernel
theorem dX5_bit_205 : decode cX5_bit 205 = .ok (.iload 4, 2) := by decide +kernel
theorem dX5_bit_207 : decode cX5_bit 207 = .ok (.iconst 1, 1) := by decide +kernel
theorem dX5_bit_208 : decode cX5_bit 208 = .ok (.if_icmp .ge 131, 3) := by decide +kernel
theorem dX5_bit_211 : decode cX5_bit 211 = .ok (.aload_n 0, 1) := by decide +kernel
theorem dX5_bit_212 : decode cX5_bit 212 = .ok (.getfield 57, 3) := by decide +kernel
theorem dX5_bit_215 : decode cX5_bit 215 = .ok (.aload_n 0, 1) := by decide +kernel
theorem dX5_bit_216 : decode cX5_bit 216 = .ok (.getfield 47, 3) := by decide +kernel
theorem dX5_bit_219 : decode cX5_bit 219 = .ok (.if_icmp .lt 40, 3) := by decide +kernel
theorem dX5_bit_222 : decode cX5_bit 222 = .ok (.aload_n 0, 1) := by decide +kernel
theorem dX5_bit_223 : decode cX5_bit 223 = .ok (.iconst 1, 1) := by decide +kernel
theorem dX5_bit_224 : decode cX5_bit 224 = .ok (.putfield 76, 3) := by decide +kernel
theorem dX5_bit_227 : decode cX5_bit 227 = .ok (.aload_n 0, 1) := by decide +kernel
theorem dX5_bit_228 : decode cX5_bit 228 = .ok (.aload_n 0, 1) := by decide +kernel
theorem dX5_bit_229 : decode cX5_bit 229 = .ok (.getfield 70, 3) := by decide +kernel
theorem dX5_bit_232 : decode cX5_bit 232 = .ok (.ifCond .eq 10, 3) := by decide +kernel
theorem dX5_bit_235 : decode cX5_bit 235 = .ok (.aload_n 0, 1) := by decide +kernel
theorem dX5_bit_236 : decode cX5_bit 236 = .ok (.getfield 57, 3) := by decide +kernel
theorem dX5_bit_239 : decode cX5_bit 239 = .ok (.goto 7, 3) := by decide +kernel
theorem dX5_bit_242 : decode cX5_bit 242 = .ok (.aload_n 0, 1) := by decide +kernel
theorem dX5_bit_243 : decode cX5_bit 243 = .ok (.getfield 60, 3) := by decide +kernel
theorem dX5_bit_246 : decode cX5_bit 246 = .ok (.putfield 79, 3) := by decide +kernel
theorem dX5_bit_249 : decode cX5_bit 249 = .ok (.new 82, 3) := by decide +kernel
theorem dX5_bit_252 : decode cX5_bit 252 = .ok (.dup, 1) := by decide +kernel
theorem dX5_bit_253 : decode cX5_bit 253 = .ok (.ldc 105, 2) := by decide +kernel
theorem dX5_bit_255 : decode cX5_bit 255 = .ok (.invokespecial 86, 3) := by decide +kernel
theorem dX5_bit_258 : decode cX5_bit 258 = .ok (.athrow, 1) := by decide +kernel
theorem dX5_bit_259 : decode cX5_bit 259 = .ok (.aload_n 0, 1) := by decide +kernel
theorem dX5_bit_260 : decode cX5_bit 260 = .ok (.getfield 40, 3) := by decide +kernel
theorem dX5_bit_263 : decode cX5_bit 263 = .ok (.iconst 1, 1) := by decide +kernel
theorem dX5_bit_264 : decode cX5_bit 264 = .ok (.aload_n 0, 1) := by decide +kernel
theorem dX5_bit_265 : decode cX5_bit 265 = .ok (.getfield 57, 3) := by decide +kernel
theorem dX5_bit_268 : decode cX5_bit 268 = .ok (.iconst 3, 1) := by decide +kernel
theorem dX5_bit_269 : decode cX5_bit 269 = .ok (.ishr, 1) := by decide +kernel
theorem dX5_bit_270 : decode cX5_bit 270 = .ok (.iadd, 1) := by decide +kernel
theorem dX5_bit_271 : decode cX5_bit 271 = .ok (.baload, 1) := by decide +kernel
theorem dX5_bit_272 : decode cX5_bit 272 = .ok (.bipush 7, 2) := by decide +kernel
theorem dX5_bit_274 : decode cX5_bit 274 = .ok (.aload_n 0, 1) := by decide +kernel
theorem dX5_bit_275 : decode cX5_bit 275 = .ok (.getfield 57, 3) := by decide +kernel
theorem dX5_bit_278 : decode cX5_bit 278 = .ok (.bipush 7, 2) := by decide +kernel
theorem dX5_bit_280 : decode cX5_bit 280 = .ok (.iand, 1) := by decide +kernel
theorem dX5_bit_281 : decode cX5_bit 281 = .ok (.isub, 1) := by decide +kernel
theorem dX5_bit_282 : decode cX5_bit 282 = .ok (.ishr, 1) := by decide +kernel
theorem dX5_bit_283 : decode cX5_bit 283 = .ok (.iconst 1, 1) := by decide +kernel
theorem dX5_bit_284 : decode cX5_bit 284 = .ok (.iand, 1) := by decide +kernel
theorem dX5_bit_285 : decode cX5_bit 285 = .ok (.istore 5, 2) := by decide +kernel
theorem dX5_bit_287 : decode cX5_bit 287 = .ok (.aload_n 0, 1) := by decide +kernel
theorem dX5_bit_288 : decode cX5_bit 288 = .ok (.dup, 1) := by decide +kernel
theorem dX5_bit_289 : decode cX5_bit 289 = .ok (.getfield 57, 3) := by decide +kernel
theorem dX5_bit_292 : decode cX5_bit 292 = .ok (.iconst 1, 1) := by decide +kernel
theorem dX5_bit_293 : decode cX5_bit 293 = .ok (.iadd, 1) := by decide +kernel
theorem dX5_bit_294 : decode cX5_bit 294 = .ok (.putfield 57, 3) := by decide +kernel
theorem dX5_bit_297 : decode cX5_bit 297 = .ok (.aload_n 0, 1) := by decide +kernel
theorem dX5_bit_298 : decode cX5_bit 298 = .ok (.getfield 66, 3) := by decide +kernel
theorem dX5_bit_301 : decode cX5_bit 301 = .ok (.ifCond .eq 29, 3) := by decide +kernel
theorem dX5_bit_304 : decode cX5_bit 304 = .ok (.aload_n 0, 1) := by decide +kernel
theorem dX5_bit_305 : decode cX5_bit 305 = .ok (.dup, 1) := by decide +kernel
theorem dX5_bit_306 : decode cX5_bit 306 = .ok (.getfield 96, 3) := by decide +kernel
theorem dX5_bit_309 : decode cX5_bit 309 = .ok (.iconst 1, 1) := by decide +kernel
theorem dX5_bit_310 : decode cX5_bit 310 = .ok (.ishl, 1) := by decide +kernel
theorem dX5_bit_311 : decode cX5_bit 311 = .ok (.putfield 96, 3) := by decide +kernel
theorem dX5_bit_314 : decode cX5_bit 314 = .ok (.aload_n 0, 1) := by decide +kernel
theorem dX5_bit_315 : decode cX5_bit 315 = .ok (.aload_n 0, 1) := by decide +kernel
theorem dX5_bit_316 : decode cX5_bit 316 = .ok (.getfield 99, 3) := by decide +kernel
theorem dX5_bit_319 : decode cX5_bit 319 = .ok (.iconst 1, 1) := by decide +kernel
theorem dX5_bit_320 : decode cX5_bit 320 = .ok (.ishl, 1) := by decide +kernel
theorem dX5_bit_321 : decode cX5_bit 321 = .ok (.iload 5, 2) := by decide +kernel
theorem dX5_bit_323 : decode cX5_bit 323 = .ok (.ior, 1) := by decide +kernel
theorem dX5_bit_324 : decode cX5_bit 324 = .ok (.putfield 99, 3) := by decide +kernel
theorem dX5_bit_327 : decode cX5_bit 327 = .ok (.goto 6, 3) := by decide +kernel
theorem dX5_bit_330 : decode cX5_bit 330 = .ok (.iload 5, 2) := by decide +kernel
theorem dX5_bit_332 : decode cX5_bit 332 = .ok (.istore_n 3, 1) := by decide +kernel
theorem dX5_bit_333 : decode cX5_bit 333 = .ok (.iinc 4 1, 3) := by decide +kernel
theorem dX5_bit_336 : decode cX5_bit 336 = .ok (.goto (-158), 3) := by decide +kernel
theorem dX5_bit_339 : decode cX5_bit 339 = .ok (.iload_n 3, 1) := by decide +kernel
theorem dX5_bit_340 : decode cX5_bit 340 = .ok (.ireturn, 1) := by decide +kernel
def FX5_bit (G : GG) (M : DD) (a : Nat) (p0 : Int32) (p1 : Int32) : Option (DD × Int32) :=
  ltt (M.1 a 6) fun x1 =>
  bnd (if x1 = ((0 : Int32)) then (some ((0 : Int32), M)) else
  (ltt ((((16 : Int32)) * p0)) fun x84 =>
  bnd (if ((15 : Int32)) ≤ p1 then (some ((15 : Int32))) else
  (some (p1))) fun (y85 : Int32) =>
  ltt ((x84 + y85)) fun x86 =>
  dr G 13 ((M.2 a 10)) fun b87 =>
  chk (¬ (x86 < 0 ∨ G.2.2 b87 ≤ x86.toNatClampNeg)) <|
  ltt (M.1 b87 x86.toNatClampNeg) fun x88 =>
  ltt ((x88 >>> (((1 : Int32)) &&& 31))) fun x89 =>
  chk (¬ (x86 < 0 ∨ G.2.2 b87 ≤ x86.toNatClampNeg)) <|
  ltt (M.1 b87 x86.toNatClampNeg) fun x90 =>
  ltt ((x90 &&& ((1 : Int32)))) fun x91 =>
  ltt ((((4 : Int32)) * x89)) fun x92 =>
  ltt (M.1 a 8) fun x93 =>
  ltt ((x93 >>> (((6 : Int32)) &&& 31))) fun x94 =>
  ltt ((x94 &&& ((3 : Int32)))) fun x95 =>
  ltt ((x92 + x95)) fun x96 =>
  chk (¬ (x96 < 0 ∨ 256 ≤ x96.toNatClampNeg)) <|
  ltt ((sT 8).getD x96.toNatClampNeg 0) fun x97 =>
  ltt (M.1 a 8) fun x98 =>
  ltt ((x98 - x97)) fun x99 =>
  ltt (uI M a 8 x99) fun M100 =>
  ltt (M100.1 a 9) fun x101 =>
  ltt (M100.1 a 8) fun x102 =>
  bnd (if x102 ≤ x101 then (ltt ((((1 : Int32)) - x91)) fun x109 =>
  ltt (M100.1 a 9) fun x110 =>
  ltt (M100.1 a 8) fun x111 =>
  ltt ((x110 - x111)) fun x112 =>
  ltt (uI M100 a 9 x112) fun M113 =>
  ltt (uI M113 a 8 x97) fun M114 =>
  bnd (if x89 = ((0 : Int32)) then (some (x109)) else
  (some (x91))) fun (y115 : Int32) =>
  chk (¬ (x89 < 0 ∨ 64 ≤ x89.toNatClampNeg)) <|
  ltt ((sT 7).getD x89.toNatClampNeg 0) fun x116 =>
  some (x109, x116, y115, M114)) else
  (bnd (if ((62 : Int32)) ≤ x89 then (some ((62 : Int32))) else
  (ltt ((x89 + ((1 : Int32)))) fun x120 =>
  some (x120))) fun (y118 : Int32) =>
  some (x91, y118, x91, M100))) fun (y103 : Int32 × Int32 × Int32 × DD) =>
  ltt ((y103.2.1 <<< (((1 : Int32)) &&& 31))) fun x104 =>
  ltt ((x104 ||| y103.2.2.1)) fun x105 =>
  dr G 13 ((y103.2.2.2.2 a 10)) fun b106 =>
  chk (¬ (x86 < 0 ∨ G.2.2 b106 ≤ x86.toNatClampNeg)) <|
  ltt (uI y103.2.2.2 b106 x86.toNatClampNeg x105) fun M107 =>
  some (y103.1, M107))) fun (y2 : Int32 × DD) =>
  bnd (itr (fun (s4 : Int32 × Int32 × DD) => ((if ((9 : Int32)) ≤ s4.2.1 then (some (.inr (s4.1, s4.2.1, s4.2.2))) else
  (ltt (s4.2.2.1 a 6) fun x8 =>
  if x8 = ((0 : Int32)) then (if ((1 : Int32)) ≤ s4.2.1 then (some (.inr (s4.1, s4.2.1, s4.2.2))) else
  (ltt (s4.2.2.1 a 2) fun x11 =>
  ltt (s4.2.2.1 a 1) fun x12 =>
  bnd (if x11 < x12 then (some (s4.2.2)) else
  (ltt (uI s4.2.2 a 15 ((1 : Int32))) fun M39 =>
  ltt (M39.1 a 7) fun x40 =>
  bnd (if x40 = ((0 : Int32)) then (ltt (M39.1 a 4) fun x44 =>
  some (x44)) else
  (ltt (M39.1 a 2) fun x45 =>
  some (x45))) fun (y41 : Int32) =>
  ltt (uI M39 a 16 y41) fun M42 =>
  none)) fun (y13 : DD) =>
  ltt (y13.1 a 2) fun x14 =>
  ltt ((x14 >>> (((3 : Int32)) &&& 31))) fun x15 =>
  ltt ((((1 : Int32)) + x15)) fun x16 =>
  dr G 12 ((y13.2 a 0)) fun b17 =>
  chk (¬ (x16 < 0 ∨ G.2.2 b17 ≤ x16.toNatClampNeg)) <|
  ltt (y13.1 b17 x16.toNatClampNeg) fun x18 =>
  ltt (y13.1 a 2) fun x19 =>
  ltt ((x19 &&& ((7 : Int32)))) fun x20 =>
  ltt ((((7 : Int32)) - x20)) fun x21 =>
  ltt ((x18 >>> (x21 &&& 31))) fun x22 =>
  ltt ((x22 &&& ((1 : Int32)))) fun x23 =>
  ltt (y13.1 a 2) fun x24 =>
  ltt ((x24 + ((1 : Int32)))) fun x25 =>
  ltt (uI y13 a 2 x25) fun M26 =>
  ltt (M26.1 a 6) fun x27 =>
  bnd (if x27 = ((0 : Int32)) then (some (x23, M26)) else
  (ltt (M26.1 a 8) fun x31 =>
  ltt ((x31 <<< (((1 : Int32)) &&& 31))) fun x32 =>
  ltt (uI M26 a 8 x32) fun M33 =>
  ltt (M33.1 a 9) fun x34 =>
  ltt ((x34 <<< (((1 : Int32)) &&& 31))) fun x35 =>
  ltt ((x35 ||| x23)) fun x36 =>
  ltt (uI M33 a 9 x36) fun M37 =>
  some (s4.1, M37))) fun (y28 : Int32 × DD) =>
  ltt (s4.2.1 + (1 : Int32)) fun x29 =>
  some (.inl (y28.1, x29, y28.2)))) else
  (ltt (s4.2.2.1 a 8) fun x46 =>
  if ((256 : Int32)) ≤ x46 then (some (.inr (s4.1, s4.2.1, s4.2.2))) else
  (ltt (s4.2.2.1 a 2) fun x48 =>
  ltt (s4.2.2.1 a 1) fun x49 =>
  bnd (if x48 < x49 then (some (s4.2.2)) else
  (ltt (uI s4.2.2 a 15 ((1 : Int32))) fun M76 =>
  ltt (M76.1 a 7) fun x77 =>
  bnd (if x77 = ((0 : Int32)) then (ltt (M76.1 a 4) fun x81 =>
  some (x81)) else
  (ltt (M76.1 a 2) fun x82 =>
  some (x82))) fun (y78 : Int32) =>
  ltt (uI M76 a 16 y78) fun M79 =>
  none)) fun (y50 : DD) =>
  ltt (y50.1 a 2) fun x51 =>
  ltt ((x51 >>> (((3 : Int32)) &&& 31))) fun x52 =>
  ltt ((((1 : Int32)) + x52)) fun x53 =>
  dr G 12 ((y50.2 a 0)) fun b54 =>
  chk (¬ (x53 < 0 ∨ G.2.2 b54 ≤ x53.toNatClampNeg)) <|
  ltt (y50.1 b54 x53.toNatClampNeg) fun x55 =>
  ltt (y50.1 a 2) fun x56 =>
  ltt ((x56 &&& ((7 : Int32)))) fun x57 =>
  ltt ((((7 : Int32)) - x57)) fun x58 =>
  ltt ((x55 >>> (x58 &&& 31))) fun x59 =>
  ltt ((x59 &&& ((1 : Int32)))) fun x60 =>
  ltt (y50.1 a 2) fun x61 =>
  ltt ((x61 + ((1 : Int32)))) fun x62 =>
  ltt (uI y50 a 2 x62) fun M63 =>
  ltt (M63.1 a 6) fun x64 =>
  bnd (if x64 = ((0 : Int32)) then (some (x60, M63)) else
  (ltt (M63.1 a 8) fun x68 =>
  ltt ((x68 <<< (((1 : Int32)) &&& 31))) fun x69 =>
  ltt (uI M63 a 8 x69) fun M70 =>
  ltt (M70.1 a 9) fun x71 =>
  ltt ((x71 <<< (((1 : Int32)) &&& 31))) fun x72 =>
  ltt ((x72 ||| x60)) fun x73 =>
  ltt (uI M70 a 9 x73) fun M74 =>
  some (s4.1, M74))) fun (y65 : Int32 × DD) =>
  ltt (s4.2.1 + (1 : Int32)) fun x66 =>
  some (.inl (y65.1, x66, y65.2)))))) : Option ((Int32 × Int32 × DD) ⊕ (Int32 × Int32 × DD)))) 1000000 (y2.1, (0 : Int32), y2.2)) fun (y3 : Int32 × Int32 × DD) =>
  some (y3.2.2, y3.1)
set_option maxHeartbeats 4000000 in
set_option maxRecDepth 100000 in
theorem kX5_bit (l : Launch) (D : va_G) (ct : CT) (ad : Nat → Nat) (Z : Nat → Nat) (G : GG) (M : DD) (sz : Nat) (a : Nat) (p0 : Int32) (p1 : Int32) (y : DD × Int32) (hc : a < G.1) (hk : G.2.1 a = 5) (hF : FX5_bit G M a p0 p1 = some y) : Met l yX5_bit wsX5_bit ({ frames := 0, cells := 0, slots := 0, locals := 0 }) (va_Pc [.ref (ad a), .int p0, .int p1] (kB D ct ad Z G M sz)) (va_Qi (fun (q : Int32) (_ : Unit) => q = y.2) (fun _ t => kE D ct ad G (wA ad G sz) y.1 t) (wA ad G sz)) 0 0 (wA ad G sz) := by
  refine Met.ofW (cc := cX5_bit) (maxL := 8) (ret := (some .int)) (by decide) rfl ?_
  intro p e s m args below meth c s₁ B hml hv
  obtain ⟨rfl, hsz, hP, hK, hD0, hZ, hN⟩ := hv
  have hx := B.exec
  have hb := B.bytes
  have hr := B.returns
  have hts := atoms_spec (ws := wsX5_bit) B.pre
  have hown : s.vm.findClass RX5 = some m.cls := findClass_of_methodNamed B.named
  have hlocks := B.notSynchronized
  subst hsz
  have hD := wD_self (sz := s.heap.size) hD0
  have hA9 : ∀ q, s.heap.size ≤ q → wA ad G s.heap.size q := fun q h => Or.inr h
  generalize hAe : wA ad G s.heap.size = A at hD hA9 hZ ⊢
  have hS : va_S A s.heap s.heap [] := va_S.rf
  have hl := lv_entry ([.ref (ad a), .int p0, .int p1]) (n := 8) (Nat.le_of_ble_eq_true rfl)
  rw [lg_entry_eq]
  generalize (lg_sl ([.ref (ad a), .int p0, .int p1]) ++ List.replicate (8 - (lg_sl ([.ref (ad a), .int p0, .int p1])).length) Slot.unset).toArray = ls at hl ⊢
  have hl : lv_has ls 8 [(0, .ref (ad a)), (1, .int p0), (2, .int p1)] := hl
  unfold FX5_bit at hF
  refine lv_iconst (v := (0 : Int32)) hx hb dX5_bit_0 (by decide) ?_
  refine lv_istore_n (lv' := [(3, .int (0 : Int32)), (0, .ref (ad a)), (1, .int p0), (2, .int p1)]) hx hb dX5_bit_1 rfl hl (by decide) rfl (fun ls hl => ?_)
  refine lv_aload_n hx hb dX5_bit_2 rfl (lv_at hl 1 rfl) ?_
  refine va_get (D := D) (ci := 5) (v := .int (M.1 a 6)) (C := RX5) (T := TX5) (N := 17) hx hb hts (by decide +kernel) hown hK hP a (wld_o ct ad G M hc hk (by decide)) rfl 6 (by decide) (hts (.fieldLink RX5 66 "VideoSuite$Reader" "arith" "Z") (by decide +kernel)) (fun _ h9 => h9) rfl dX5_bit_3 ?_
  obtain ⟨x1, ex1, hF⟩ := ltt_some hF
  refine lv_topi (fun zx1 ezx1 => ?_)
  obtain rfl : x1 = zx1 := ex1.trans ezx1.symm
  obtain ⟨y2, hy2, hF⟩ := bnd_some hF
  have J2 : ∀ (H : Heap) (locs : List Loc) (ls : Array Slot), va_P D classes (wld ct ad G y2.2) H → va_D A (wld ct ad G y2.2) → va_S A s.heap H locs → lv_has ls 8 [(3, .int y2.1), (0, .ref (ad a)), (1, .int p0), (2, .int p1)] → W p l e (headSpec wsX5_bit ({ frames := 0, cells := 0, slots := 0, locals := 0 })).room s m ([.ref (ad a), .int p0, .int p1] : List Value).toArray below meth c H locs 0 0 (MQ below (va_Qi (fun (q : Int32) (_ : Unit) => q = y.2) (fun _ t => kE D ct ad G A y.1 t) A) ([.ref (ad a), .int p0, .int p1] : List Value).toArray s 0 0 A) (F0 m 175 ls []) := by
    intro H locs ls hP hD hS hl
    refine lv_iconst (v := (0 : Int32)) hx hb dX5_bit_175 (by decide) ?_
    refine lv_istore (lv' := [(4, .int (0 : Int32)), (3, .int y2.1), (0, .ref (ad a)), (1, .int p0), (2, .int p1)]) hx hb dX5_bit_176 hl (by decide) rfl (fun ls hl => ?_)
    obtain ⟨y3, hy3, hF⟩ := bnd_some hF
    have K3 : ∀ (H : Heap) (locs : List Loc) (ls : Array Slot), va_P D classes (wld ct ad G y3.2.2) H → va_D A (wld ct ad G y3.2.2) → va_S A s.heap H locs → lv_has ls 8 [(4, .int y3.2.1), (3, .int y3.1), (0, .ref (ad a)), (1, .int p0), (2, .int p1)] → W p l e (headSpec wsX5_bit ({ frames := 0, cells := 0, slots := 0, locals := 0 })).room s m ([.ref (ad a), .int p0, .int p1] : List Value).toArray below meth c H locs 0 0 (MQ below (va_Qi (fun (q : Int32) (_ : Unit) => q = y.2) (fun _ t => kE D ct ad G A y.1 t) A) ([.ref (ad a), .int p0, .int p1] : List Value).toArray s 0 0 A) (F0 m 339 ls []) := by
      intro H locs ls hP hD hS hl
      refine lv_iload_n hx hb dX5_bit_339 rfl (lv_at hl 1 rfl) ?_
      obtain rfl := Option.some.inj hF
      exact W.iret (v := y3.1) hx hb hr (fun t ht hW => ⟨⟨_, (), rfl, rfl, ⟨by rw [ht]; exact hP, va_K.moved hW.alike hK, hD⟩⟩, hS.F ht⟩) hS.2.2 dX5_bit_340
    clear hF
    refine itr_rule (fun (s4 : Int32 × Int32 × DD) => ∀ (H : Heap) (locs : List Loc) (ls : Array Slot), va_P D classes (wld ct ad G s4.2.2) H → va_D A (wld ct ad G s4.2.2) → va_S A s.heap H locs → lv_has ls 8 [(4, .int s4.2.1), (3, .int s4.1), (0, .ref (ad a)), (1, .int p0), (2, .int p1)] → W p l e (headSpec wsX5_bit ({ frames := 0, cells := 0, slots := 0, locals := 0 })).room s m ([.ref (ad a), .int p0, .int p1] : List Value).toArray below meth c H locs 0 0 (MQ below (va_Qi (fun (q : Int32) (_ : Unit) => q = y.2) (fun _ t => kE D ct ad G A y.1 t) A) ([.ref (ad a), .int p0, .int p1] : List Value).toArray s 0 0 A) (F0 m 178 ls [])) ?_ _ _ hy3 _ _ _ hP hD hS (lv_sub hl [0, 1, 2, 3, 4] rfl)
    rintro s4 ⟨z6, hF, hwz6⟩ H locs ls hP hD hS hl
    try dsimp only at hF
    refine lv_iload hx hb dX5_bit_178 (lv_at hl 0 rfl) ?_
    refine lv_bipush (v := (9 : Int32)) hx hb dX5_bit_180 (by decide) ?_
    refine lv_icmp_ge (tgt := 339) hx hb dX5_bit_182 (by decide) (fun c7 => ?_) (fun c7 => ?_)
    · rw [if_pos c7] at hF
      obtain rfl := Option.some.inj hF
      subst hwz6
      exact K3 _ _ _ hP hD hS (lv_sub hl [0, 1, 2, 3, 4] rfl)
    · rw [if_neg c7] at hF
      refine lv_aload_n hx hb dX5_bit_185 rfl (lv_at hl 2 rfl) ?_
      refine va_get (D := D) (ci := 5) (v := .int (s4.2.2.1 a 6)) (C := RX5) (T := TX5) (N := 17) hx hb hts (by decide +kernel) hown hK hP a (wld_o ct ad G s4.2.2 hc hk (by decide)) rfl 6 (by decide) (hts (.fieldLink RX5 66 "VideoSuite$Reader" "arith" "Z") (by decide +kernel)) (fun _ h9 => h9) rfl dX5_bit_186 ?_
      obtain ⟨x8, ex8, hF⟩ := ltt_some hF
      refine lv_topi (fun zx8 ezx8 => ?_)
      obtain rfl : x8 = zx8 := ex8.trans ezx8.symm
      refine lv_if_eq (tgt := 205) hx hb dX5_bit_189 (by decide) (fun c9 => ?_) (fun c9 => ?_)
      · rw [if_pos c9] at hF
        refine lv_iload hx hb dX5_bit_205 (lv_at hl 0 rfl) ?_
        refine lv_iconst (v := (1 : Int32)) hx hb dX5_bit_207 (by decide) ?_
        refine lv_icmp_ge (tgt := 339) hx hb dX5_bit_208 (by decide) (fun c10 => ?_) (fun c10 => ?_)
        · rw [if_pos c10] at hF
          obtain rfl := Option.some.inj hF
          subst hwz6
          exact K3 _ _ _ hP hD hS (lv_sub hl [0, 1, 2, 3, 4] rfl)
        · rw [if_neg c10] at hF
          refine lv_aload_n hx hb dX5_bit_211 rfl (lv_at hl 2 rfl) ?_
          refine va_get (D := D) (ci := 5) (v := .int (s4.2.2.1 a 2)) (C := RX5) (T := TX5) (N := 17) hx hb hts (by decide +kernel) hown hK hP a (wld_o ct ad G s4.2.2 hc hk (by decide)) rfl 2 (by decide) (hts (.fieldLink RX5 57 "VideoSuite$Reader" "place" "I") (by decide +kernel)) (fun _ h9 => h9) rfl dX5_bit_212 ?_
          obtain ⟨x11, ex11, hF⟩ := ltt_some hF
          refine lv_topi (fun zx11 ezx11 => ?_)
          obtain rfl : x11 = zx11 := ex11.trans ezx11.symm
          refine lv_aload_n hx hb dX5_bit_215 rfl (lv_at hl 2 rfl) ?_
          refine va_get (D := D) (ci := 5) (v := .int (s4.2.2.1 a 1)) (C := RX5) (T := TX5) (N := 17) hx hb hts (by decide +kernel) hown hK hP a (wld_o ct ad G s4.2.2 hc hk (by decide)) rfl 1 (by decide) (hts (.fieldLink RX5 47 "VideoSuite$Reader" "total" "I") (by decide +kernel)) (fun _ h9 => h9) rfl dX5_bit_216 ?_
          obtain ⟨x12, ex12, hF⟩ := ltt_some hF
          refine lv_topi (fun zx12 ezx12 => ?_)
          obtain rfl : x12 = zx12 := ex12.trans ezx12.symm
          obtain ⟨y13, hy13, hF⟩ := bnd_some hF
          have J13 : ∀ (H : Heap) (locs : List Loc) (ls : Array Slot), va_P D classes (wld ct ad G y13) H → va_D A (wld ct ad G y13) → va_S A s.heap H locs → lv_has ls 8 [(4, .int s4.2.1), (3, .int s4.1), (0, .ref (ad a)), (1, .int p0), (2, .int p1)] → W p l e (headSpec wsX5_bit ({ frames := 0, cells := 0, slots := 0, locals := 0 })).room s m ([.ref (ad a), .int p0, .int p1] : List Value).toArray below meth c H locs 0 0 (MQ below (va_Qi (fun (q : Int32) (_ : Unit) => q = y.2) (fun _ t => kE D ct ad G A y.1 t) A) ([.ref (ad a), .int p0, .int p1] : List Value).toArray s 0 0 A) (F0 m 259 ls []) := by
            intro H locs ls hP hD hS hl
            refine lv_aload_n hx hb dX5_bit_259 rfl (lv_at hl 2 rfl) ?_
            refine va_get (D := D) (ci := 5) (v := va_re ad (y13.2 a 0)) (C := RX5) (T := TX5) (N := 17) hx hb hts (by decide +kernel) hown hK hP a (wld_o ct ad G y13 hc hk (by decide)) rfl 0 (by decide) (hts (.fieldLink RX5 40 "VideoSuite$Reader" "data" "[B") (by decide +kernel)) (fun _ h9 => h9) rfl dX5_bit_260 ?_
            refine lv_iconst (v := (1 : Int32)) hx hb dX5_bit_263 (by decide) ?_
            refine lv_aload_n hx hb dX5_bit_264 rfl (lv_at hl 2 rfl) ?_
            refine va_get (D := D) (ci := 5) (v := .int (y13.1 a 2)) (C := RX5) (T := TX5) (N := 17) hx hb hts (by decide +kernel) hown hK hP a (wld_o ct ad G y13 hc hk (by decide)) rfl 2 (by decide) (hts (.fieldLink RX5 57 "VideoSuite$Reader" "place" "I") (by decide +kernel)) (fun _ h9 => h9) rfl dX5_bit_265 ?_
            obtain ⟨x14, ex14, hF⟩ := ltt_some hF
            refine lv_topi (fun zx14 ezx14 => ?_)
            obtain rfl : x14 = zx14 := ex14.trans ezx14.symm
            refine lv_iconst (v := (3 : Int32)) hx hb dX5_bit_268 (by decide) ?_
            refine lv_ishr hx hb dX5_bit_269 ?_
            obtain ⟨x15, ex15, hF⟩ := ltt_some hF
            refine lv_topi (fun zx15 ezx15 => ?_)
            obtain rfl : x15 = zx15 := ex15.trans ezx15.symm
            refine lv_iadd hx hb dX5_bit_270 ?_
            obtain ⟨x16, ex16, hF⟩ := ltt_some hF
            refine lv_topi (fun zx16 ezx16 => ?_)
            obtain rfl : x16 = zx16 := ex16.trans ezx16.symm
            obtain ⟨b17, ho17, hc17, hk17, hF⟩ := dr_some hF
            refine W_st (st' := [.int x16, .ref (ad b17)]) (by rw [va_some ho17]) ?_
            obtain ⟨hvc, hF⟩ := chk_some hF
            refine va_bald hx hb hK hP b17 0 (wld_b ct ad G y13 hc17 hk17) rfl hvc dX5_bit_271 ?_
            obtain ⟨x18, ex18, hF⟩ := ltt_some hF
            refine lv_topi (fun zx18 ezx18 => ?_)
            obtain rfl : x18 = zx18 := ex18.trans ezx18.symm
            refine lv_bipush (v := (7 : Int32)) hx hb dX5_bit_272 (by decide) ?_
            refine lv_aload_n hx hb dX5_bit_274 rfl (lv_at hl 2 rfl) ?_
            refine va_get (D := D) (ci := 5) (v := .int (y13.1 a 2)) (C := RX5) (T := TX5) (N := 17) hx hb hts (by decide +kernel) hown hK hP a (wld_o ct ad G y13 hc hk (by decide)) rfl 2 (by decide) (hts (.fieldLink RX5 57 "VideoSuite$Reader" "place" "I") (by decide +kernel)) (fun _ h9 => h9) rfl dX5_bit_275 ?_
            obtain ⟨x19, ex19, hF⟩ := ltt_some hF
            refine lv_topi (fun zx19 ezx19 => ?_)
            obtain rfl : x19 = zx19 := ex19.trans ezx19.symm
            refine lv_bipush (v := (7 : Int32)) hx hb dX5_bit_278 (by decide) ?_
            refine lv_iand hx hb dX5_bit_280 ?_
            obtain ⟨x20, ex20, hF⟩ := ltt_some hF
            refine lv_topi (fun zx20 ezx20 => ?_)
            obtain rfl : x20 = zx20 := ex20.trans ezx20.symm
            refine lv_isub hx hb dX5_bit_281 ?_
            obtain ⟨x21, ex21, hF⟩ := ltt_some hF
            refine lv_topi (fun zx21 ezx21 => ?_)
            obtain rfl : x21 = zx21 := ex21.trans ezx21.symm
            refine lv_ishr hx hb dX5_bit_282 ?_
            obtain ⟨x22, ex22, hF⟩ := ltt_some hF
            refine lv_topi (fun zx22 ezx22 => ?_)
            obtain rfl : x22 = zx22 := ex22.trans ezx22.symm
            refine lv_iconst (v := (1 : Int32)) hx hb dX5_bit_283 (by decide) ?_
            refine lv_iand hx hb dX5_bit_284 ?_
            obtain ⟨x23, ex23, hF⟩ := ltt_some hF
            refine lv_topi (fun zx23 ezx23 => ?_)
            obtain rfl : x23 = zx23 := ex23.trans ezx23.symm
            refine lv_istore (lv' := [(5, .int x23), (4, .int s4.2.1), (3, .int s4.1), (0, .ref (ad a)), (1, .int p0), (2, .int p1)]) hx hb dX5_bit_285 hl (by decide) rfl (fun ls hl => ?_)
            refine lv_aload_n hx hb dX5_bit_287 rfl (lv_at hl 3 rfl) ?_
            refine lv_dup hx hb dX5_bit_288 rfl ?_
            refine va_get (D := D) (ci := 5) (v := .int (y13.1 a 2)) (C := RX5) (T := TX5) (N := 17) hx hb hts (by decide +kernel) hown hK hP a (wld_o ct ad G y13 hc hk (by decide)) rfl 2 (by decide) (hts (.fieldLink RX5 57 "VideoSuite$Reader" "place" "I") (by decide +kernel)) (fun _ h9 => h9) rfl dX5_bit_289 ?_
            obtain ⟨x24, ex24, hF⟩ := ltt_some hF
            refine lv_topi (fun zx24 ezx24 => ?_)
            obtain rfl : x24 = zx24 := ex24.trans ezx24.symm
            refine lv_iconst (v := (1 : Int32)) hx hb dX5_bit_292 (by decide) ?_
            refine lv_iadd hx hb dX5_bit_293 ?_
            obtain ⟨x25, ex25, hF⟩ := ltt_some hF
            refine lv_topi (fun zx25 ezx25 => ?_)
            obtain rfl : x25 = zx25 := ex25.trans ezx25.symm
            refine va_put (D := D) (ci := 5) (v := .int x25) (ty := .int) (C := RX5) (T := TX5) (N := 17) hx hb hts (by decide +kernel) tyX5 tyX5_ok nmX5 hown hK hP hD hS a (wld_o ct ad G y13 hc hk (by decide)) rfl 2 (by decide) (hts (.fieldLink RX5 57 "VideoSuite$Reader" "place" "I") (by decide +kernel)) (fun _ h9 => h9) rfl (by decide +kernel) rfl rfl (Nat.le_of_ble_eq_true rfl) dX5_bit_294 (fun H locs hP hD hS => ?_)
            obtain ⟨M26, eM26, hF⟩ := ltt_some hF
            rw [set_oI ct ad G y13 hc hk (by decide) (by rfl), ← eM26] at hP hD
            refine lv_aload_n hx hb dX5_bit_297 rfl (lv_at hl 3 rfl) ?_
            refine va_get (D := D) (ci := 5) (v := .int (M26.1 a 6)) (C := RX5) (T := TX5) (N := 17) hx hb hts (by decide +kernel) hown hK hP a (wld_o ct ad G M26 hc hk (by decide)) rfl 6 (by decide) (hts (.fieldLink RX5 66 "VideoSuite$Reader" "arith" "Z") (by decide +kernel)) (fun _ h9 => h9) rfl dX5_bit_298 ?_
            obtain ⟨x27, ex27, hF⟩ := ltt_some hF
            refine lv_topi (fun zx27 ezx27 => ?_)
            obtain rfl : x27 = zx27 := ex27.trans ezx27.symm
            obtain ⟨y28, hy28, hF⟩ := bnd_some hF
            have J28 : ∀ (H : Heap) (locs : List Loc) (ls : Array Slot), va_P D classes (wld ct ad G y28.2) H → va_D A (wld ct ad G y28.2) → va_S A s.heap H locs → lv_has ls 8 [(5, .int x23), (4, .int s4.2.1), (3, .int y28.1), (0, .ref (ad a)), (1, .int p0), (2, .int p1)] → W p l e (headSpec wsX5_bit ({ frames := 0, cells := 0, slots := 0, locals := 0 })).room s m ([.ref (ad a), .int p0, .int p1] : List Value).toArray below meth c H locs 0 0 (MQ below (va_Qi (fun (q : Int32) (_ : Unit) => q = y.2) (fun _ t => kE D ct ad G A y.1 t) A) ([.ref (ad a), .int p0, .int p1] : List Value).toArray s 0 0 A) (F0 m 333 ls []) := by
              intro H locs ls hP hD hS hl
              obtain ⟨x29, ex29, hF⟩ := ltt_some hF
              refine lv_iinc (v := x29) (lv' := [(4, .int x29), (5, .int x23), (3, .int y28.1), (0, .ref (ad a)), (1, .int p0), (2, .int p1)]) hx hb dX5_bit_333 hl (k := 1) rfl (by rw [ex29]; rfl) (by decide) rfl (fun ls hl => ?_)
              refine lv_goto (tgt := 178) hx hb dX5_bit_336 (by decide) ?_
              obtain rfl := Option.some.inj hF
              exact hwz6 _ _ _ hP hD hS (lv_sub hl [0, 2, 3, 4, 5] rfl)
            clear hF
            have hF := hy28
            clear hy28
            refine lv_if_eq (tgt := 330) hx hb dX5_bit_301 (by decide) (fun c30 => ?_) (fun c30 => ?_)
            · rw [if_pos c30] at hF
              refine lv_iload hx hb dX5_bit_330 (lv_at hl 0 rfl) ?_
              refine lv_istore_n (lv' := [(3, .int x23), (5, .int x23), (4, .int s4.2.1), (0, .ref (ad a)), (1, .int p0), (2, .int p1)]) hx hb dX5_bit_332 rfl hl (by decide) rfl (fun ls hl => ?_)
              obtain rfl := Option.some.inj hF
              exact J28 _ _ _ hP hD hS (lv_sub hl [1, 2, 0, 3, 4, 5] rfl)
            · rw [if_neg c30] at hF
              refine lv_aload_n hx hb dX5_bit_304 rfl (lv_at hl 3 rfl) ?_
              refine lv_dup hx hb dX5_bit_305 rfl ?_
              refine va_get (D := D) (ci := 5) (v := .int (M26.1 a 8)) (C := RX5) (T := TX5) (N := 17) hx hb hts (by decide +kernel) hown hK hP a (wld_o ct ad G M26 hc hk (by decide)) rfl 8 (by decide) (hts (.fieldLink RX5 96 "VideoSuite$Reader" "range" "I") (by decide +kernel)) (fun _ h9 => h9) rfl dX5_bit_306 ?_
              obtain ⟨x31, ex31, hF⟩ := ltt_some hF
              refine lv_topi (fun zx31 ezx31 => ?_)
              obtain rfl : x31 = zx31 := ex31.trans ezx31.symm
              refine lv_iconst (v := (1 : Int32)) hx hb dX5_bit_309 (by decide) ?_
              refine lv_ishl hx hb dX5_bit_310 ?_
              obtain ⟨x32, ex32, hF⟩ := ltt_some hF
              refine lv_topi (fun zx32 ezx32 => ?_)
              obtain rfl : x32 = zx32 := ex32.trans ezx32.symm
              refine va_put (D := D) (ci := 5) (v := .int x32) (ty := .int) (C := RX5) (T := TX5) (N := 17) hx hb hts (by decide +kernel) tyX5 tyX5_ok nmX5 hown hK hP hD hS a (wld_o ct ad G M26 hc hk (by decide)) rfl 8 (by decide) (hts (.fieldLink RX5 96 "VideoSuite$Reader" "range" "I") (by decide +kernel)) (fun _ h9 => h9) rfl (by decide +kernel) rfl rfl (Nat.le_of_ble_eq_true rfl) dX5_bit_311 (fun H locs hP hD hS => ?_)
              obtain ⟨M33, eM33, hF⟩ := ltt_some hF
              rw [set_oI ct ad G M26 hc hk (by decide) (by rfl), ← eM33] at hP hD
              refine lv_aload_n hx hb dX5_bit_314 rfl (lv_at hl 3 rfl) ?_
              refine lv_aload_n hx hb dX5_bit_315 rfl (lv_at hl 3 rfl) ?_
              refine va_get (D := D) (ci := 5) (v := .int (M33.1 a 9)) (C := RX5) (T := TX5) (N := 17) hx hb hts (by decide +kernel) hown hK hP a (wld_o ct ad G M33 hc hk (by decide)) rfl 9 (by decide) (hts (.fieldLink RX5 99 "VideoSuite$Reader" "offset" "I") (by decide +kernel)) (fun _ h9 => h9) rfl dX5_bit_316 ?_
              obtain ⟨x34, ex34, hF⟩ := ltt_some hF
              refine lv_topi (fun zx34 ezx34 => ?_)
              obtain rfl : x34 = zx34 := ex34.trans ezx34.symm
              refine lv_iconst (v := (1 : Int32)) hx hb dX5_bit_319 (by decide) ?_
              refine lv_ishl hx hb dX5_bit_320 ?_
              obtain ⟨x35, ex35, hF⟩ := ltt_some hF
              refine lv_topi (fun zx35 ezx35 => ?_)
              obtain rfl : x35 = zx35 := ex35.trans ezx35.symm
              refine lv_iload hx hb dX5_bit_321 (lv_at hl 0 rfl) ?_
              refine lv_ior hx hb dX5_bit_323 ?_
              obtain ⟨x36, ex36, hF⟩ := ltt_some hF
              refine lv_topi (fun zx36 ezx36 => ?_)
              obtain rfl : x36 = zx36 := ex36.trans ezx36.symm
              refine va_put (D := D) (ci := 5) (v := .int x36) (ty := .int) (C := RX5) (T := TX5) (N := 17) hx hb hts (by decide +kernel) tyX5 tyX5_ok nmX5 hown hK hP hD hS a (wld_o ct ad G M33 hc hk (by decide)) rfl 9 (by decide) (hts (.fieldLink RX5 99 "VideoSuite$Reader" "offset" "I") (by decide +kernel)) (fun _ h9 => h9) rfl (by decide +kernel) rfl rfl (Nat.le_of_ble_eq_true rfl) dX5_bit_324 (fun H locs hP hD hS => ?_)
              obtain ⟨M37, eM37, hF⟩ := ltt_some hF
              rw [set_oI ct ad G M33 hc hk (by decide) (by rfl), ← eM37] at hP hD
              refine lv_goto (tgt := 333) hx hb dX5_bit_327 (by decide) ?_
              obtain rfl := Option.some.inj hF
              exact J28 _ _ _ hP hD hS (lv_sub hl [0, 1, 2, 3, 4, 5] rfl)
          clear hF
          have hF := hy13
          clear hy13
          refine lv_icmp_lt (tgt := 259) hx hb dX5_bit_219 (by decide) (fun c38 => ?_) (fun c38 => ?_)
          · rw [if_pos c38] at hF
            obtain rfl := Option.some.inj hF
            exact J13 _ _ _ hP hD hS (lv_sub hl [0, 1, 2, 3, 4] rfl)
          · rw [if_neg c38] at hF
            refine lv_aload_n hx hb dX5_bit_222 rfl (lv_at hl 2 rfl) ?_
            refine lv_iconst (v := (1 : Int32)) hx hb dX5_bit_223 (by decide) ?_
            refine va_put (D := D) (ci := 5) (v := .int (1 : Int32)) (ty := .int) (C := RX5) (T := TX5) (N := 17) hx hb hts (by decide +kernel) tyX5 tyX5_ok nmX5 hown hK hP hD hS a (wld_o ct ad G s4.2.2 hc hk (by decide)) rfl 15 (by decide) (hts (.fieldLink RX5 76 "VideoSuite$Reader" "faultKind" "I") (by decide +kernel)) (fun _ h9 => h9) rfl (by decide +kernel) rfl rfl (Nat.le_of_ble_eq_true rfl) dX5_bit_224 (fun H locs hP hD hS => ?_)
            obtain ⟨M39, eM39, hF⟩ := ltt_some hF
            rw [set_oI ct ad G s4.2.2 hc hk (by decide) (by rfl), ← eM39] at hP hD
            refine lv_aload_n hx hb dX5_bit_227 rfl (lv_at hl 2 rfl) ?_
            refine lv_aload_n hx hb dX5_bit_228 rfl (lv_at hl 2 rfl) ?_
            refine va_get (D := D) (ci := 5) (v := .int (M39.1 a 7)) (C := RX5) (T := TX5) (N := 17) hx hb hts (by decide +kernel) hown hK hP a (wld_o ct ad G M39 hc hk (by decide)) rfl 7 (by decide) (hts (.fieldLink RX5 70 "VideoSuite$Reader" "inData" "Z") (by decide +kernel)) (fun _ h9 => h9) rfl dX5_bit_229 ?_
            obtain ⟨x40, ex40, hF⟩ := ltt_some hF
            refine lv_topi (fun zx40 ezx40 => ?_)
            obtain rfl : x40 = zx40 := ex40.trans ezx40.symm
            obtain ⟨y41, hy41, hF⟩ := bnd_some hF
            have J41 : ∀ (H : Heap) (locs : List Loc) (ls : Array Slot), va_P D classes (wld ct ad G M39) H → va_D A (wld ct ad G M39) → va_S A s.heap H locs → lv_has ls 8 [(4, .int s4.2.1), (3, .int s4.1), (0, .ref (ad a)), (1, .int p0), (2, .int p1)] → W p l e (headSpec wsX5_bit ({ frames := 0, cells := 0, slots := 0, locals := 0 })).room s m ([.ref (ad a), .int p0, .int p1] : List Value).toArray below meth c H locs 0 0 (MQ below (va_Qi (fun (q : Int32) (_ : Unit) => q = y.2) (fun _ t => kE D ct ad G A y.1 t) A) ([.ref (ad a), .int p0, .int p1] : List Value).toArray s 0 0 A) (F0 m 246 ls [.int y41, .ref (ad a)]) := by
              intro H locs ls hP hD hS hl
              refine va_put (D := D) (ci := 5) (v := .int y41) (ty := .int) (C := RX5) (T := TX5) (N := 17) hx hb hts (by decide +kernel) tyX5 tyX5_ok nmX5 hown hK hP hD hS a (wld_o ct ad G M39 hc hk (by decide)) rfl 16 (by decide) (hts (.fieldLink RX5 79 "VideoSuite$Reader" "faultPlace" "I") (by decide +kernel)) (fun _ h9 => h9) rfl (by decide +kernel) rfl rfl (Nat.le_of_ble_eq_true rfl) dX5_bit_246 (fun H locs hP hD hS => ?_)
              obtain ⟨M42, eM42, hF⟩ := ltt_some hF
              rw [set_oI ct ad G M39 hc hk (by decide) (by rfl), ← eM42] at hP hD
              cases hF
            clear hF
            have hF := hy41
            clear hy41
            refine lv_if_eq (tgt := 242) hx hb dX5_bit_232 (by decide) (fun c43 => ?_) (fun c43 => ?_)
            · rw [if_pos c43] at hF
              refine lv_aload_n hx hb dX5_bit_242 rfl (lv_at hl 2 rfl) ?_
              refine va_get (D := D) (ci := 5) (v := .int (M39.1 a 4)) (C := RX5) (T := TX5) (N := 17) hx hb hts (by decide +kernel) hown hK hP a (wld_o ct ad G M39 hc hk (by decide)) rfl 4 (by decide) (hts (.fieldLink RX5 60 "VideoSuite$Reader" "begin" "I") (by decide +kernel)) (fun _ h9 => h9) rfl dX5_bit_243 ?_
              obtain ⟨x44, ex44, hF⟩ := ltt_some hF
              refine lv_topi (fun zx44 ezx44 => ?_)
              obtain rfl : x44 = zx44 := ex44.trans ezx44.symm
              obtain rfl := Option.some.inj hF
              exact J41 _ _ _ hP hD hS (lv_sub hl [0, 1, 2, 3, 4] rfl)
            · rw [if_neg c43] at hF
              refine lv_aload_n hx hb dX5_bit_235 rfl (lv_at hl 2 rfl) ?_
              refine va_get (D := D) (ci := 5) (v := .int (M39.1 a 2)) (C := RX5) (T := TX5) (N := 17) hx hb hts (by decide +kernel) hown hK hP a (wld_o ct ad G M39 hc hk (by decide)) rfl 2 (by decide) (hts (.fieldLink RX5 57 "VideoSuite$Reader" "place" "I") (by decide +kernel)) (fun _ h9 => h9) rfl dX5_bit_236 ?_
              obtain ⟨x45, ex45, hF⟩ := ltt_some hF
              refine lv_topi (fun zx45 ezx45 => ?_)
              obtain rfl : x45 = zx45 := ex45.trans ezx45.symm
              refine lv_goto (tgt := 246) hx hb dX5_bit_239 (by decide) ?_
              obtain rfl := Option.some.inj hF
              exact J41 _ _ _ hP hD hS (lv_sub hl [0, 1, 2, 3, 4] rfl)
      · rw [if_neg c9] at hF
        refine lv_aload_n hx hb dX5_bit_192 rfl (lv_at hl 2 rfl) ?_
        refine va_get (D := D) (ci := 5) (v := .int (s4.2.2.1 a 8)) (C := RX5) (T := TX5) (N := 17) hx hb hts (by decide +kernel) hown hK hP a (wld_o ct ad G s4.2.2 hc hk (by decide)) rfl 8 (by decide) (hts (.fieldLink RX5 96 "VideoSuite$Reader" "range" "I") (by decide +kernel)) (fun _ h9 => h9) rfl dX5_bit_193 ?_
        obtain ⟨x46, ex46, hF⟩ := ltt_some hF
        refine lv_topi (fun zx46 ezx46 => ?_)
        obtain rfl : x46 = zx46 := ex46.trans ezx46.symm
        refine lv_sipush (v := (256 : Int32)) hx hb dX5_bit_196 (by decide) ?_
        refine lv_icmp_ge (tgt := 339) hx hb dX5_bit_199 (by decide) (fun c47 => ?_) (fun c47 => ?_)
        · rw [if_pos c47] at hF
          obtain rfl := Option.some.inj hF
          subst hwz6
          exact K3 _ _ _ hP hD hS (lv_sub hl [0, 1, 2, 3, 4] rfl)
        · rw [if_neg c47] at hF
          refine lv_goto (tgt := 211) hx hb dX5_bit_202 (by decide) ?_
          refine lv_aload_n hx hb dX5_bit_211 rfl (lv_at hl 2 rfl) ?_
          refine va_get (D := D) (ci := 5) (v := .int (s4.2.2.1 a 2)) (C := RX5) (T := TX5) (N := 17) hx hb hts (by decide +kernel) hown hK hP a (wld_o ct ad G s4.2.2 hc hk (by decide)) rfl 2 (by decide) (hts (.fieldLink RX5 57 "VideoSuite$Reader" "place" "I") (by decide +kernel)) (fun _ h9 => h9) rfl dX5_bit_212 ?_
          obtain ⟨x48, ex48, hF⟩ := ltt_some hF
          refine lv_topi (fun zx48 ezx48 => ?_)
          obtain rfl : x48 = zx48 := ex48.trans ezx48.symm
          refine lv_aload_n hx hb dX5_bit_215 rfl (lv_at hl 2 rfl) ?_
          refine va_get (D := D) (ci := 5) (v := .int (s4.2.2.1 a 1)) (C := RX5) (T := TX5) (N := 17) hx hb hts (by decide +kernel) hown hK hP a (wld_o ct ad G s4.2.2 hc hk (by decide)) rfl 1 (by decide) (hts (.fieldLink RX5 47 "VideoSuite$Reader" "total" "I") (by decide +kernel)) (fun _ h9 => h9) rfl dX5_bit_216 ?_
          obtain ⟨x49, ex49, hF⟩ := ltt_some hF
          refine lv_topi (fun zx49 ezx49 => ?_)
          obtain rfl : x49 = zx49 := ex49.trans ezx49.symm
          obtain ⟨y50, hy50, hF⟩ := bnd_some hF
          have J50 : ∀ (H : Heap) (locs : List Loc) (ls : Array Slot), va_P D classes (wld ct ad G y50) H → va_D A (wld ct ad G y50) → va_S A s.heap H locs → lv_has ls 8 [(4, .int s4.2.1), (3, .int s4.1), (0, .ref (ad a)), (1, .int p0), (2, .int p1)] → W p l e (headSpec wsX5_bit ({ frames := 0, cells := 0, slots := 0, locals := 0 })).room s m ([.ref (ad a), .int p0, .int p1] : List Value).toArray below meth c H locs 0 0 (MQ below (va_Qi (fun (q : Int32) (_ : Unit) => q = y.2) (fun _ t => kE D ct ad G A y.1 t) A) ([.ref (ad a), .int p0, .int p1] : List Value).toArray s 0 0 A) (F0 m 259 ls []) := by
            intro H locs ls hP hD hS hl
            refine lv_aload_n hx hb dX5_bit_259 rfl (lv_at hl 2 rfl) ?_
            refine va_get (D := D) (ci := 5) (v := va_re ad (y50.2 a 0)) (C := RX5) (T := TX5) (N := 17) hx hb hts (by decide +kernel) hown hK hP a (wld_o ct ad G y50 hc hk (by decide)) rfl 0 (by decide) (hts (.fieldLink RX5 40 "VideoSuite$Reader" "data" "[B") (by decide +kernel)) (fun _ h9 => h9) rfl dX5_bit_260 ?_
            refine lv_iconst (v := (1 : Int32)) hx hb dX5_bit_263 (by decide) ?_
            refine lv_aload_n hx hb dX5_bit_264 rfl (lv_at hl 2 rfl) ?_
            refine va_get (D := D) (ci := 5) (v := .int (y50.1 a 2)) (C := RX5) (T := TX5) (N := 17) hx hb hts (by decide +kernel) hown hK hP a (wld_o ct ad G y50 hc hk (by decide)) rfl 2 (by decide) (hts (.fieldLink RX5 57 "VideoSuite$Reader" "place" "I") (by decide +kernel)) (fun _ h9 => h9) rfl dX5_bit_265 ?_
            obtain ⟨x51, ex51, hF⟩ := ltt_some hF
            refine lv_topi (fun zx51 ezx51 => ?_)
            obtain rfl : x51 = zx51 := ex51.trans ezx51.symm
            refine lv_iconst (v := (3 : Int32)) hx hb dX5_bit_268 (by decide) ?_
            refine lv_ishr hx hb dX5_bit_269 ?_
            obtain ⟨x52, ex52, hF⟩ := ltt_some hF
            refine lv_topi (fun zx52 ezx52 => ?_)
            obtain rfl : x52 = zx52 := ex52.trans ezx52.symm
            refine lv_iadd hx hb dX5_bit_270 ?_
            obtain ⟨x53, ex53, hF⟩ := ltt_some hF
            refine lv_topi (fun zx53 ezx53 => ?_)
            obtain rfl : x53 = zx53 := ex53.trans ezx53.symm
            obtain ⟨b54, ho54, hc54, hk54, hF⟩ := dr_some hF
            refine W_st (st' := [.int x53, .ref (ad b54)]) (by rw [va_some ho54]) ?_
            obtain ⟨hvc, hF⟩ := chk_some hF
            refine va_bald hx hb hK hP b54 0 (wld_b ct ad G y50 hc54 hk54) rfl hvc dX5_bit_271 ?_
            obtain ⟨x55, ex55, hF⟩ := ltt_some hF
            refine lv_topi (fun zx55 ezx55 => ?_)
            obtain rfl : x55 = zx55 := ex55.trans ezx55.symm
            refine lv_bipush (v := (7 : Int32)) hx hb dX5_bit_272 (by decide) ?_
            refine lv_aload_n hx hb dX5_bit_274 rfl (lv_at hl 2 rfl) ?_
            refine va_get (D := D) (ci := 5) (v := .int (y50.1 a 2)) (C := RX5) (T := TX5) (N := 17) hx hb hts (by decide +kernel) hown hK hP a (wld_o ct ad G y50 hc hk (by decide)) rfl 2 (by decide) (hts (.fieldLink RX5 57 "VideoSuite$Reader" "place" "I") (by decide +kernel)) (fun _ h9 => h9) rfl dX5_bit_275 ?_
            obtain ⟨x56, ex56, hF⟩ := ltt_some hF
            refine lv_topi (fun zx56 ezx56 => ?_)
            obtain rfl : x56 = zx56 := ex56.trans ezx56.symm
            refine lv_bipush (v := (7 : Int32)) hx hb dX5_bit_278 (by decide) ?_
            refine lv_iand hx hb dX5_bit_280 ?_
            obtain ⟨x57, ex57, hF⟩ := ltt_some hF
            refine lv_topi (fun zx57 ezx57 => ?_)
            obtain rfl : x57 = zx57 := ex57.trans ezx57.symm
            refine lv_isub hx hb dX5_bit_281 ?_
            obtain ⟨x58, ex58, hF⟩ := ltt_some hF
            refine lv_topi (fun zx58 ezx58 => ?_)
            obtain rfl : x58 = zx58 := ex58.trans ezx58.symm
            refine lv_ishr hx hb dX5_bit_282 ?_
            obtain ⟨x59, ex59, hF⟩ := ltt_some hF
            refine lv_topi (fun zx59 ezx59 => ?_)
            obtain rfl : x59 = zx59 := ex59.trans ezx59.symm
            refine lv_iconst (v := (1 : Int32)) hx hb dX5_bit_283 (by decide) ?_
            refine lv_iand hx hb dX5_bit_284 ?_
            obtain ⟨x60, ex60, hF⟩ := ltt_some hF
            refine lv_topi (fun zx60 ezx60 => ?_)
            obtain rfl : x60 = zx60 := ex60.trans ezx60.symm
            refine lv_istore (lv' := [(5, .int x60), (4, .int s4.2.1), (3, .int s4.1), (0, .ref (ad a)), (1, .int p0), (2, .int p1)]) hx hb dX5_bit_285 hl (by decide) rfl (fun ls hl => ?_)
            refine lv_aload_n hx hb dX5_bit_287 rfl (lv_at hl 3 rfl) ?_
            refine lv_dup hx hb dX5_bit_288 rfl ?_
            refine va_get (D := D) (ci := 5) (v := .int (y50.1 a 2)) (C := RX5) (T := TX5) (N := 17) hx hb hts (by decide +kernel) hown hK hP a (wld_o ct ad G y50 hc hk (by decide)) rfl 2 (by decide) (hts (.fieldLink RX5 57 "VideoSuite$Reader" "place" "I") (by decide +kernel)) (fun _ h9 => h9) rfl dX5_bit_289 ?_
            obtain ⟨x61, ex61, hF⟩ := ltt_some hF
            refine lv_topi (fun zx61 ezx61 => ?_)
            obtain rfl : x61 = zx61 := ex61.trans ezx61.symm
            refine lv_iconst (v := (1 : Int32)) hx hb dX5_bit_292 (by decide) ?_
            refine lv_iadd hx hb dX5_bit_293 ?_
            obtain ⟨x62, ex62, hF⟩ := ltt_some hF
            refine lv_topi (fun zx62 ezx62 => ?_)
            obtain rfl : x62 = zx62 := ex62.trans ezx62.symm
            refine va_put (D := D) (ci := 5) (v := .int x62) (ty := .int) (C := RX5) (T := TX5) (N := 17) hx hb hts (by decide +kernel) tyX5 tyX5_ok nmX5 hown hK hP hD hS a (wld_o ct ad G y50 hc hk (by decide)) rfl 2 (by decide) (hts (.fieldLink RX5 57 "VideoSuite$Reader" "place" "I") (by decide +kernel)) (fun _ h9 => h9) rfl (by decide +kernel) rfl rfl (Nat.le_of_ble_eq_true rfl) dX5_bit_294 (fun H locs hP hD hS => ?_)
            obtain ⟨M63, eM63, hF⟩ := ltt_some hF
            rw [set_oI ct ad G y50 hc hk (by decide) (by rfl), ← eM63] at hP hD
            refine lv_aload_n hx hb dX5_bit_297 rfl (lv_at hl 3 rfl) ?_
            refine va_get (D := D) (ci := 5) (v := .int (M63.1 a 6)) (C := RX5) (T := TX5) (N := 17) hx hb hts (by decide +kernel) hown hK hP a (wld_o ct ad G M63 hc hk (by decide)) rfl 6 (by decide) (hts (.fieldLink RX5 66 "VideoSuite$Reader" "arith" "Z") (by decide +kernel)) (fun _ h9 => h9) rfl dX5_bit_298 ?_
            obtain ⟨x64, ex64, hF⟩ := ltt_some hF
            refine lv_topi (fun zx64 ezx64 => ?_)
            obtain rfl : x64 = zx64 := ex64.trans ezx64.symm
            obtain ⟨y65, hy65, hF⟩ := bnd_some hF
            have J65 : ∀ (H : Heap) (locs : List Loc) (ls : Array Slot), va_P D classes (wld ct ad G y65.2) H → va_D A (wld ct ad G y65.2) → va_S A s.heap H locs → lv_has ls 8 [(5, .int x60), (4, .int s4.2.1), (3, .int y65.1), (0, .ref (ad a)), (1, .int p0), (2, .int p1)] → W p l e (headSpec wsX5_bit ({ frames := 0, cells := 0, slots := 0, locals := 0 })).room s m ([.ref (ad a), .int p0, .int p1] : List Value).toArray below meth c H locs 0 0 (MQ below (va_Qi (fun (q : Int32) (_ : Unit) => q = y.2) (fun _ t => kE D ct ad G A y.1 t) A) ([.ref (ad a), .int p0, .int p1] : List Value).toArray s 0 0 A) (F0 m 333 ls []) := by
              intro H locs ls hP hD hS hl
              obtain ⟨x66, ex66, hF⟩ := ltt_some hF
              refine lv_iinc (v := x66) (lv' := [(4, .int x66), (5, .int x60), (3, .int y65.1), (0, .ref (ad a)), (1, .int p0), (2, .int p1)]) hx hb dX5_bit_333 hl (k := 1) rfl (by rw [ex66]; rfl) (by decide) rfl (fun ls hl => ?_)
              refine lv_goto (tgt := 178) hx hb dX5_bit_336 (by decide) ?_
              obtain rfl := Option.some.inj hF
              exact hwz6 _ _ _ hP hD hS (lv_sub hl [0, 2, 3, 4, 5] rfl)
            clear hF
            have hF := hy65
            clear hy65
            refine lv_if_eq (tgt := 330) hx hb dX5_bit_301 (by decide) (fun c67 => ?_) (fun c67 => ?_)
            · rw [if_pos c67] at hF
              refine lv_iload hx hb dX5_bit_330 (lv_at hl 0 rfl) ?_
              refine lv_istore_n (lv' := [(3, .int x60), (5, .int x60), (4, .int s4.2.1), (0, .ref (ad a)), (1, .int p0), (2, .int p1)]) hx hb dX5_bit_332 rfl hl (by decide) rfl (fun ls hl => ?_)
              obtain rfl := Option.some.inj hF
              exact J65 _ _ _ hP hD hS (lv_sub hl [1, 2, 0, 3, 4, 5] rfl)
            · rw [if_neg c67] at hF
              refine lv_aload_n hx hb dX5_bit_304 rfl (lv_at hl 3 rfl) ?_
              refine lv_dup hx hb dX5_bit_305 rfl ?_
              refine va_get (D := D) (ci := 5) (v := .int (M63.1 a 8)) (C := RX5) (T := TX5) (N := 17) hx hb hts (by decide +kernel) hown hK hP a (wld_o ct ad G M63 hc hk (by decide)) rfl 8 (by decide) (hts (.fieldLink RX5 96 "VideoSuite$Reader" "range" "I") (by decide +kernel)) (fun _ h9 => h9) rfl dX5_bit_306 ?_
              obtain ⟨x68, ex68, hF⟩ := ltt_some hF
              refine lv_topi (fun zx68 ezx68 => ?_)
              obtain rfl : x68 = zx68 := ex68.trans ezx68.symm
              refine lv_iconst (v := (1 : Int32)) hx hb dX5_bit_309 (by decide) ?_
              refine lv_ishl hx hb dX5_bit_310 ?_
              obtain ⟨x69, ex69, hF⟩ := ltt_some hF
              refine lv_topi (fun zx69 ezx69 => ?_)
              obtain rfl : x69 = zx69 := ex69.trans ezx69.symm
              refine va_put (D := D) (ci := 5) (v := .int x69) (ty := .int) (C := RX5) (T := TX5) (N := 17) hx hb hts (by decide +kernel) tyX5 tyX5_ok nmX5 hown hK hP hD hS a (wld_o ct ad G M63 hc hk (by decide)) rfl 8 (by decide) (hts (.fieldLink RX5 96 "VideoSuite$Reader" "range" "I") (by decide +kernel)) (fun _ h9 => h9) rfl (by decide +kernel) rfl rfl (Nat.le_of_ble_eq_true rfl) dX5_bit_311 (fun H locs hP hD hS => ?_)
              obtain ⟨M70, eM70, hF⟩ := ltt_some hF
              rw [set_oI ct ad G M63 hc hk (by decide) (by rfl), ← eM70] at hP hD
              refine lv_aload_n hx hb dX5_bit_314 rfl (lv_at hl 3 rfl) ?_
              refine lv_aload_n hx hb dX5_bit_315 rfl (lv_at hl 3 rfl) ?_
              refine va_get (D := D) (ci := 5) (v := .int (M70.1 a 9)) (C := RX5) (T := TX5) (N := 17) hx hb hts (by decide +kernel) hown hK hP a (wld_o ct ad G M70 hc hk (by decide)) rfl 9 (by decide) (hts (.fieldLink RX5 99 "VideoSuite$Reader" "offset" "I") (by decide +kernel)) (fun _ h9 => h9) rfl dX5_bit_316 ?_
              obtain ⟨x71, ex71, hF⟩ := ltt_some hF
              refine lv_topi (fun zx71 ezx71 => ?_)
              obtain rfl : x71 = zx71 := ex71.trans ezx71.symm
              refine lv_iconst (v := (1 : Int32)) hx hb dX5_bit_319 (by decide) ?_
              refine lv_ishl hx hb dX5_bit_320 ?_
              obtain ⟨x72, ex72, hF⟩ := ltt_some hF
              refine lv_topi (fun zx72 ezx72 => ?_)
              obtain rfl : x72 = zx72 := ex72.trans ezx72.symm
              refine lv_iload hx hb dX5_bit_321 (lv_at hl 0 rfl) ?_
              refine lv_ior hx hb dX5_bit_323 ?_
              obtain ⟨x73, ex73, hF⟩ := ltt_some hF
              refine lv_topi (fun zx73 ezx73 => ?_)
              obtain rfl : x73 = zx73 := ex73.trans ezx73.symm
              refine va_put (D := D) (ci := 5) (v := .int x73) (ty := .int) (C := RX5) (T := TX5) (N := 17) hx hb hts (by decide +kernel) tyX5 tyX5_ok nmX5 hown hK hP hD hS a (wld_o ct ad G M70 hc hk (by decide)) rfl 9 (by decide) (hts (.fieldLink RX5 99 "VideoSuite$Reader" "offset" "I") (by decide +kernel)) (fun _ h9 => h9) rfl (by decide +kernel) rfl rfl (Nat.le_of_ble_eq_true rfl) dX5_bit_324 (fun H locs hP hD hS => ?_)
              obtain ⟨M74, eM74, hF⟩ := ltt_some hF
              rw [set_oI ct ad G M70 hc hk (by decide) (by rfl), ← eM74] at hP hD
              refine lv_goto (tgt := 333) hx hb dX5_bit_327 (by decide) ?_
              obtain rfl := Option.some.inj hF
              exact J65 _ _ _ hP hD hS (lv_sub hl [0, 1, 2, 3, 4, 5] rfl)
          clear hF
          have hF := hy50
          clear hy50
          refine lv_icmp_lt (tgt := 259) hx hb dX5_bit_219 (by decide) (fun c75 => ?_) (fun c75 => ?_)
          · rw [if_pos c75] at hF
            obtain rfl := Option.some.inj hF
            exact J50 _ _ _ hP hD hS (lv_sub hl [0, 1, 2, 3, 4] rfl)
          · rw [if_neg c75] at hF
            refine lv_aload_n hx hb dX5_bit_222 rfl (lv_at hl 2 rfl) ?_
            refine lv_iconst (v := (1 : Int32)) hx hb dX5_bit_223 (by decide) ?_
            refine va_put (D := D) (ci := 5) (v := .int (1 : Int32)) (ty := .int) (C := RX5) (T := TX5) (N := 17) hx hb hts (by decide +kernel) tyX5 tyX5_ok nmX5 hown hK hP hD hS a (wld_o ct ad G s4.2.2 hc hk (by decide)) rfl 15 (by decide) (hts (.fieldLink RX5 76 "VideoSuite$Reader" "faultKind" "I") (by decide +kernel)) (fun _ h9 => h9) rfl (by decide +kernel) rfl rfl (Nat.le_of_ble_eq_true rfl) dX5_bit_224 (fun H locs hP hD hS => ?_)
            obtain ⟨M76, eM76, hF⟩ := ltt_some hF
            rw [set_oI ct ad G s4.2.2 hc hk (by decide) (by rfl), ← eM76] at hP hD
            refine lv_aload_n hx hb dX5_bit_227 rfl (lv_at hl 2 rfl) ?_
            refine lv_aload_n hx hb dX5_bit_228 rfl (lv_at hl 2 rfl) ?_
            refine va_get (D := D) (ci := 5) (v := .int (M76.1 a 7)) (C := RX5) (T := TX5) (N := 17) hx hb hts (by decide +kernel) hown hK hP a (wld_o ct ad G M76 hc hk (by decide)) rfl 7 (by decide) (hts (.fieldLink RX5 70 "VideoSuite$Reader" "inData" "Z") (by decide +kernel)) (fun _ h9 => h9) rfl dX5_bit_229 ?_
            obtain ⟨x77, ex77, hF⟩ := ltt_some hF
            refine lv_topi (fun zx77 ezx77 => ?_)
            obtain rfl : x77 = zx77 := ex77.trans ezx77.symm
            obtain ⟨y78, hy78, hF⟩ := bnd_some hF
            have J78 : ∀ (H : Heap) (locs : List Loc) (ls : Array Slot), va_P D classes (wld ct ad G M76) H → va_D A (wld ct ad G M76) → va_S A s.heap H locs → lv_has ls 8 [(4, .int s4.2.1), (3, .int s4.1), (0, .ref (ad a)), (1, .int p0), (2, .int p1)] → W p l e (headSpec wsX5_bit ({ frames := 0, cells := 0, slots := 0, locals := 0 })).room s m ([.ref (ad a), .int p0, .int p1] : List Value).toArray below meth c H locs 0 0 (MQ below (va_Qi (fun (q : Int32) (_ : Unit) => q = y.2) (fun _ t => kE D ct ad G A y.1 t) A) ([.ref (ad a), .int p0, .int p1] : List Value).toArray s 0 0 A) (F0 m 246 ls [.int y78, .ref (ad a)]) := by
              intro H locs ls hP hD hS hl
              refine va_put (D := D) (ci := 5) (v := .int y78) (ty := .int) (C := RX5) (T := TX5) (N := 17) hx hb hts (by decide +kernel) tyX5 tyX5_ok nmX5 hown hK hP hD hS a (wld_o ct ad G M76 hc hk (by decide)) rfl 16 (by decide) (hts (.fieldLink RX5 79 "VideoSuite$Reader" "faultPlace" "I") (by decide +kernel)) (fun _ h9 => h9) rfl (by decide +kernel) rfl rfl (Nat.le_of_ble_eq_true rfl) dX5_bit_246 (fun H locs hP hD hS => ?_)
              obtain ⟨M79, eM79, hF⟩ := ltt_some hF
              rw [set_oI ct ad G M76 hc hk (by decide) (by rfl), ← eM79] at hP hD
              cases hF
            clear hF
            have hF := hy78
            clear hy78
            refine lv_if_eq (tgt := 242) hx hb dX5_bit_232 (by decide) (fun c80 => ?_) (fun c80 => ?_)
            · rw [if_pos c80] at hF
              refine lv_aload_n hx hb dX5_bit_242 rfl (lv_at hl 2 rfl) ?_
              refine va_get (D := D) (ci := 5) (v := .int (M76.1 a 4)) (C := RX5) (T := TX5) (N := 17) hx hb hts (by decide +kernel) hown hK hP a (wld_o ct ad G M76 hc hk (by decide)) rfl 4 (by decide) (hts (.fieldLink RX5 60 "VideoSuite$Reader" "begin" "I") (by decide +kernel)) (fun _ h9 => h9) rfl dX5_bit_243 ?_
              obtain ⟨x81, ex81, hF⟩ := ltt_some hF
              refine lv_topi (fun zx81 ezx81 => ?_)
              obtain rfl : x81 = zx81 := ex81.trans ezx81.symm
              obtain rfl := Option.some.inj hF
              exact J78 _ _ _ hP hD hS (lv_sub hl [0, 1, 2, 3, 4] rfl)
            · rw [if_neg c80] at hF
              refine lv_aload_n hx hb dX5_bit_235 rfl (lv_at hl 2 rfl) ?_
              refine va_get (D := D) (ci := 5) (v := .int (M76.1 a 2)) (C := RX5) (T := TX5) (N := 17) hx hb hts (by decide +kernel) hown hK hP a (wld_o ct ad G M76 hc hk (by decide)) rfl 2 (by decide) (hts (.fieldLink RX5 57 "VideoSuite$Reader" "place" "I") (by decide +kernel)) (fun _ h9 => h9) rfl dX5_bit_236 ?_
              obtain ⟨x82, ex82, hF⟩ := ltt_some hF
              refine lv_topi (fun zx82 ezx82 => ?_)
              obtain rfl : x82 = zx82 := ex82.trans ezx82.symm
              refine lv_goto (tgt := 246) hx hb dX5_bit_239 (by decide) ?_
              obtain rfl := Option.some.inj hF
              exact J78 _ _ _ hP hD hS (lv_sub hl [0, 1, 2, 3, 4] rfl)
  clear hF
  have hF := hy2
  clear hy2
  refine lv_if_eq (tgt := 175) hx hb dX5_bit_6 (by decide) (fun c83 => ?_) (fun c83 => ?_)
  · rw [if_pos c83] at hF
    obtain rfl := Option.some.inj hF
    exact J2 _ _ _ hP hD hS (lv_sub hl [0, 1, 2, 3] rfl)
  · rw [if_neg c83] at hF
    refine lv_bipush (v := (16 : Int32)) hx hb dX5_bit_9 (by decide) ?_
    refine lv_iload_n hx hb dX5_bit_11 rfl (lv_at hl 2 rfl) ?_
    refine lv_imul hx hb dX5_bit_12 ?_
    obtain ⟨x84, ex84, hF⟩ := ltt_some hF
    refine lv_topi (fun zx84 ezx84 => ?_)
    obtain rfl : x84 = zx84 := ex84.trans ezx84.symm
    refine lv_iload_n hx hb dX5_bit_13 rfl (lv_at hl 3 rfl) ?_
    refine lv_bipush (v := (15 : Int32)) hx hb dX5_bit_14 (by decide) ?_
    obtain ⟨y85, hy85, hF⟩ := bnd_some hF
    have J85 : ∀ (H : Heap) (locs : List Loc) (ls : Array Slot), va_P D classes (wld ct ad G M) H → va_D A (wld ct ad G M) → va_S A s.heap H locs → lv_has ls 8 [(3, .int (0 : Int32)), (0, .ref (ad a)), (1, .int p0), (2, .int p1)] → W p l e (headSpec wsX5_bit ({ frames := 0, cells := 0, slots := 0, locals := 0 })).room s m ([.ref (ad a), .int p0, .int p1] : List Value).toArray below meth c H locs 0 0 (MQ below (va_Qi (fun (q : Int32) (_ : Unit) => q = y.2) (fun _ t => kE D ct ad G A y.1 t) A) ([.ref (ad a), .int p0, .int p1] : List Value).toArray s 0 0 A) (F0 m 25 ls [.int y85, .int x84]) := by
      intro H locs ls hP hD hS hl
      refine lv_iadd hx hb dX5_bit_25 ?_
      obtain ⟨x86, ex86, hF⟩ := ltt_some hF
      refine lv_topi (fun zx86 ezx86 => ?_)
      obtain rfl : x86 = zx86 := ex86.trans ezx86.symm
      refine lv_istore (lv' := [(4, .int x86), (3, .int (0 : Int32)), (0, .ref (ad a)), (1, .int p0), (2, .int p1)]) hx hb dX5_bit_26 hl (by decide) rfl (fun ls hl => ?_)
      refine lv_aload_n hx hb dX5_bit_28 rfl (lv_at hl 2 rfl) ?_
      refine va_get (D := D) (ci := 5) (v := va_re ad (M.2 a 10)) (C := RX5) (T := TX5) (N := 17) hx hb hts (by decide +kernel) hown hK hP a (wld_o ct ad G M hc hk (by decide)) rfl 10 (by decide) (hts (.fieldLink RX5 11 "VideoSuite$Reader" "state" "[I") (by decide +kernel)) (fun _ h9 => h9) rfl dX5_bit_29 ?_
      refine lv_iload hx hb dX5_bit_32 (lv_at hl 0 rfl) ?_
      obtain ⟨b87, ho87, hc87, hk87, hF⟩ := dr_some hF
      refine W_st (st' := [.int x86, .ref (ad b87)]) (by rw [va_some ho87]) ?_
      obtain ⟨hvc, hF⟩ := chk_some hF
      refine va_iald hx hb hK hP b87 1 (wld_i ct ad G M hc87 hk87) rfl hvc dX5_bit_34 ?_
      obtain ⟨x88, ex88, hF⟩ := ltt_some hF
      refine lv_topi (fun zx88 ezx88 => ?_)
      obtain rfl : x88 = zx88 := ex88.trans ezx88.symm
      refine lv_iconst (v := (1 : Int32)) hx hb dX5_bit_35 (by decide) ?_
      refine lv_ishr hx hb dX5_bit_36 ?_
      obtain ⟨x89, ex89, hF⟩ := ltt_some hF
      refine lv_topi (fun zx89 ezx89 => ?_)
      obtain rfl : x89 = zx89 := ex89.trans ezx89.symm
      refine lv_istore (lv' := [(5, .int x89), (4, .int x86), (3, .int (0 : Int32)), (0, .ref (ad a)), (1, .int p0), (2, .int p1)]) hx hb dX5_bit_37 hl (by decide) rfl (fun ls hl => ?_)
      refine lv_aload_n hx hb dX5_bit_39 rfl (lv_at hl 3 rfl) ?_
      refine va_get (D := D) (ci := 5) (v := va_re ad (M.2 a 10)) (C := RX5) (T := TX5) (N := 17) hx hb hts (by decide +kernel) hown hK hP a (wld_o ct ad G M hc hk (by decide)) rfl 10 (by decide) (hts (.fieldLink RX5 11 "VideoSuite$Reader" "state" "[I") (by decide +kernel)) (fun _ h9 => h9) rfl dX5_bit_40 ?_
      refine lv_iload hx hb dX5_bit_43 (lv_at hl 1 rfl) ?_
      refine W_st (st' := [.int x86, .ref (ad b87)]) (by rw [va_some ho87]) ?_
      obtain ⟨hvc, hF⟩ := chk_some hF
      refine va_iald hx hb hK hP b87 1 (wld_i ct ad G M hc87 hk87) rfl hvc dX5_bit_45 ?_
      obtain ⟨x90, ex90, hF⟩ := ltt_some hF
      refine lv_topi (fun zx90 ezx90 => ?_)
      obtain rfl : x90 = zx90 := ex90.trans ezx90.symm
      refine lv_iconst (v := (1 : Int32)) hx hb dX5_bit_46 (by decide) ?_
      refine lv_iand hx hb dX5_bit_47 ?_
      obtain ⟨x91, ex91, hF⟩ := ltt_some hF
      refine lv_topi (fun zx91 ezx91 => ?_)
      obtain rfl : x91 = zx91 := ex91.trans ezx91.symm
      refine lv_istore (lv' := [(6, .int x91), (5, .int x89), (4, .int x86), (3, .int (0 : Int32)), (0, .ref (ad a)), (1, .int p0), (2, .int p1)]) hx hb dX5_bit_48 hl (by decide) rfl (fun ls hl => ?_)
      refine va_gets hx hb (hZ.1 8 (by decide)).1 hS hown (hts (.fieldLink RX5 93 "VideoSuite$Reader" "LOWER" "[I") (by decide +kernel)) (fun _ h => h) dX5_bit_50 ?_
      refine lv_iconst (v := (4 : Int32)) hx hb dX5_bit_53 (by decide) ?_
      refine lv_iload hx hb dX5_bit_54 (lv_at hl 1 rfl) ?_
      refine lv_imul hx hb dX5_bit_56 ?_
      obtain ⟨x92, ex92, hF⟩ := ltt_some hF
      refine lv_topi (fun zx92 ezx92 => ?_)
      obtain rfl : x92 = zx92 := ex92.trans ezx92.symm
      refine lv_aload_n hx hb dX5_bit_57 rfl (lv_at hl 4 rfl) ?_
      refine va_get (D := D) (ci := 5) (v := .int (M.1 a 8)) (C := RX5) (T := TX5) (N := 17) hx hb hts (by decide +kernel) hown hK hP a (wld_o ct ad G M hc hk (by decide)) rfl 8 (by decide) (hts (.fieldLink RX5 96 "VideoSuite$Reader" "range" "I") (by decide +kernel)) (fun _ h9 => h9) rfl dX5_bit_58 ?_
      obtain ⟨x93, ex93, hF⟩ := ltt_some hF
      refine lv_topi (fun zx93 ezx93 => ?_)
      obtain rfl : x93 = zx93 := ex93.trans ezx93.symm
      refine lv_bipush (v := (6 : Int32)) hx hb dX5_bit_61 (by decide) ?_
      refine lv_ishr hx hb dX5_bit_63 ?_
      obtain ⟨x94, ex94, hF⟩ := ltt_some hF
      refine lv_topi (fun zx94 ezx94 => ?_)
      obtain rfl : x94 = zx94 := ex94.trans ezx94.symm
      refine lv_iconst (v := (3 : Int32)) hx hb dX5_bit_64 (by decide) ?_
      refine lv_iand hx hb dX5_bit_65 ?_
      obtain ⟨x95, ex95, hF⟩ := ltt_some hF
      refine lv_topi (fun zx95 ezx95 => ?_)
      obtain rfl : x95 = zx95 := ex95.trans ezx95.symm
      refine lv_iadd hx hb dX5_bit_66 ?_
      obtain ⟨x96, ex96, hF⟩ := ltt_some hF
      refine lv_topi (fun zx96 ezx96 => ?_)
      obtain rfl : x96 = zx96 := ex96.trans ezx96.symm
      obtain ⟨hvc, hF⟩ := chk_some hF
      refine va_ti (v := .int ((sT 8).getD x96.toNatClampNeg 0)) hx hb (hZ.1 8 (by decide)).2 hS hvc rfl dX5_bit_67 ?_
      obtain ⟨x97, ex97, hF⟩ := ltt_some hF
      refine lv_topi (fun zx97 ezx97 => ?_)
      obtain rfl : x97 = zx97 := ex97.trans ezx97.symm
      refine lv_istore (lv' := [(7, .int x97), (6, .int x91), (5, .int x89), (4, .int x86), (3, .int (0 : Int32)), (0, .ref (ad a)), (1, .int p0), (2, .int p1)]) hx hb dX5_bit_68 hl (by decide) rfl (fun ls hl => ?_)
      refine lv_iload hx hb dX5_bit_70 (lv_at hl 1 rfl) ?_
      refine lv_istore_n (lv' := [(3, .int x91), (7, .int x97), (6, .int x91), (5, .int x89), (4, .int x86), (0, .ref (ad a)), (1, .int p0), (2, .int p1)]) hx hb dX5_bit_72 rfl hl (by decide) rfl (fun ls hl => ?_)
      refine lv_aload_n hx hb dX5_bit_73 rfl (lv_at hl 5 rfl) ?_
      refine lv_dup hx hb dX5_bit_74 rfl ?_
      refine va_get (D := D) (ci := 5) (v := .int (M.1 a 8)) (C := RX5) (T := TX5) (N := 17) hx hb hts (by decide +kernel) hown hK hP a (wld_o ct ad G M hc hk (by decide)) rfl 8 (by decide) (hts (.fieldLink RX5 96 "VideoSuite$Reader" "range" "I") (by decide +kernel)) (fun _ h9 => h9) rfl dX5_bit_75 ?_
      obtain ⟨x98, ex98, hF⟩ := ltt_some hF
      refine lv_topi (fun zx98 ezx98 => ?_)
      obtain rfl : x98 = zx98 := ex98.trans ezx98.symm
      refine lv_iload hx hb dX5_bit_78 (lv_at hl 1 rfl) ?_
      refine lv_isub hx hb dX5_bit_80 ?_
      obtain ⟨x99, ex99, hF⟩ := ltt_some hF
      refine lv_topi (fun zx99 ezx99 => ?_)
      obtain rfl : x99 = zx99 := ex99.trans ezx99.symm
      refine va_put (D := D) (ci := 5) (v := .int x99) (ty := .int) (C := RX5) (T := TX5) (N := 17) hx hb hts (by decide +kernel) tyX5 tyX5_ok nmX5 hown hK hP hD hS a (wld_o ct ad G M hc hk (by decide)) rfl 8 (by decide) (hts (.fieldLink RX5 96 "VideoSuite$Reader" "range" "I") (by decide +kernel)) (fun _ h9 => h9) rfl (by decide +kernel) rfl rfl (Nat.le_of_ble_eq_true rfl) dX5_bit_81 (fun H locs hP hD hS => ?_)
      obtain ⟨M100, eM100, hF⟩ := ltt_some hF
      rw [set_oI ct ad G M hc hk (by decide) (by rfl), ← eM100] at hP hD
      refine lv_aload_n hx hb dX5_bit_84 rfl (lv_at hl 5 rfl) ?_
      refine va_get (D := D) (ci := 5) (v := .int (M100.1 a 9)) (C := RX5) (T := TX5) (N := 17) hx hb hts (by decide +kernel) hown hK hP a (wld_o ct ad G M100 hc hk (by decide)) rfl 9 (by decide) (hts (.fieldLink RX5 99 "VideoSuite$Reader" "offset" "I") (by decide +kernel)) (fun _ h9 => h9) rfl dX5_bit_85 ?_
      obtain ⟨x101, ex101, hF⟩ := ltt_some hF
      refine lv_topi (fun zx101 ezx101 => ?_)
      obtain rfl : x101 = zx101 := ex101.trans ezx101.symm
      refine lv_aload_n hx hb dX5_bit_88 rfl (lv_at hl 5 rfl) ?_
      refine va_get (D := D) (ci := 5) (v := .int (M100.1 a 8)) (C := RX5) (T := TX5) (N := 17) hx hb hts (by decide +kernel) hown hK hP a (wld_o ct ad G M100 hc hk (by decide)) rfl 8 (by decide) (hts (.fieldLink RX5 96 "VideoSuite$Reader" "range" "I") (by decide +kernel)) (fun _ h9 => h9) rfl dX5_bit_89 ?_
      obtain ⟨x102, ex102, hF⟩ := ltt_some hF
      refine lv_topi (fun zx102 ezx102 => ?_)
      obtain rfl : x102 = zx102 := ex102.trans ezx102.symm
      obtain ⟨y103, hy103, hF⟩ := bnd_some hF
      have J103 : ∀ (H : Heap) (locs : List Loc) (ls : Array Slot), va_P D classes (wld ct ad G y103.2.2.2) H → va_D A (wld ct ad G y103.2.2.2) → va_S A s.heap H locs → lv_has ls 8 [(3, .int y103.1), (7, .int x97), (6, .int y103.2.2.1), (5, .int y103.2.1), (4, .int x86), (0, .ref (ad a)), (1, .int p0), (2, .int p1)] → W p l e (headSpec wsX5_bit ({ frames := 0, cells := 0, slots := 0, locals := 0 })).room s m ([.ref (ad a), .int p0, .int p1] : List Value).toArray below meth c H locs 0 0 (MQ below (va_Qi (fun (q : Int32) (_ : Unit) => q = y.2) (fun _ t => kE D ct ad G A y.1 t) A) ([.ref (ad a), .int p0, .int p1] : List Value).toArray s 0 0 A) (F0 m 161 ls []) := by
        intro H locs ls hP hD hS hl
        refine lv_aload_n hx hb dX5_bit_161 rfl (lv_at hl 5 rfl) ?_
        refine va_get (D := D) (ci := 5) (v := va_re ad (y103.2.2.2.2 a 10)) (C := RX5) (T := TX5) (N := 17) hx hb hts (by decide +kernel) hown hK hP a (wld_o ct ad G y103.2.2.2 hc hk (by decide)) rfl 10 (by decide) (hts (.fieldLink RX5 11 "VideoSuite$Reader" "state" "[I") (by decide +kernel)) (fun _ h9 => h9) rfl dX5_bit_162 ?_
        refine lv_iload hx hb dX5_bit_165 (lv_at hl 4 rfl) ?_
        refine lv_iload hx hb dX5_bit_167 (lv_at hl 3 rfl) ?_
        refine lv_iconst (v := (1 : Int32)) hx hb dX5_bit_169 (by decide) ?_
        refine lv_ishl hx hb dX5_bit_170 ?_
        obtain ⟨x104, ex104, hF⟩ := ltt_some hF
        refine lv_topi (fun zx104 ezx104 => ?_)
        obtain rfl : x104 = zx104 := ex104.trans ezx104.symm
        refine lv_iload hx hb dX5_bit_171 (lv_at hl 2 rfl) ?_
        refine lv_ior hx hb dX5_bit_173 ?_
        obtain ⟨x105, ex105, hF⟩ := ltt_some hF
        refine lv_topi (fun zx105 ezx105 => ?_)
        obtain rfl : x105 = zx105 := ex105.trans ezx105.symm
        obtain ⟨b106, ho106, hc106, hk106, hF⟩ := dr_some hF
        refine W_st (st' := [.int x105, .int x86, .ref (ad b106)]) (by rw [va_some ho106]) ?_
        obtain ⟨hvc, hF⟩ := chk_some hF
        refine va_iast hx hb hK hP hD hS b106 1 (wld_i ct ad G y103.2.2.2 hc106 hk106) rfl hvc dX5_bit_174 (fun H locs hP hD hS => ?_)
        obtain ⟨M107, eM107, hF⟩ := ltt_some hF
        rw [set_i ct ad G y103.2.2.2 hc106 hk106, ← eM107] at hP hD
        obtain rfl := Option.some.inj hF
        exact J2 _ _ _ hP hD hS (lv_sub hl [0, 5, 6, 7] rfl)
      clear hF
      have hF := hy103
      clear hy103
      refine lv_icmp_ge (tgt := 116) hx hb dX5_bit_92 (by decide) (fun c108 => ?_) (fun c108 => ?_)
      · rw [if_pos c108] at hF
        refine lv_iconst (v := (1 : Int32)) hx hb dX5_bit_116 (by decide) ?_
        refine lv_iload hx hb dX5_bit_117 (lv_at hl 2 rfl) ?_
        refine lv_isub hx hb dX5_bit_119 ?_
        obtain ⟨x109, ex109, hF⟩ := ltt_some hF
        refine lv_topi (fun zx109 ezx109 => ?_)
        obtain rfl : x109 = zx109 := ex109.trans ezx109.symm
        refine lv_istore_n (lv' := [(3, .int x109), (7, .int x97), (6, .int x91), (5, .int x89), (4, .int x86), (0, .ref (ad a)), (1, .int p0), (2, .int p1)]) hx hb dX5_bit_120 rfl hl (by decide) rfl (fun ls hl => ?_)
        refine lv_aload_n hx hb dX5_bit_121 rfl (lv_at hl 5 rfl) ?_
        refine lv_dup hx hb dX5_bit_122 rfl ?_
        refine va_get (D := D) (ci := 5) (v := .int (M100.1 a 9)) (C := RX5) (T := TX5) (N := 17) hx hb hts (by decide +kernel) hown hK hP a (wld_o ct ad G M100 hc hk (by decide)) rfl 9 (by decide) (hts (.fieldLink RX5 99 "VideoSuite$Reader" "offset" "I") (by decide +kernel)) (fun _ h9 => h9) rfl dX5_bit_123 ?_
        obtain ⟨x110, ex110, hF⟩ := ltt_some hF
        refine lv_topi (fun zx110 ezx110 => ?_)
        obtain rfl : x110 = zx110 := ex110.trans ezx110.symm
        refine lv_aload_n hx hb dX5_bit_126 rfl (lv_at hl 5 rfl) ?_
        refine va_get (D := D) (ci := 5) (v := .int (M100.1 a 8)) (C := RX5) (T := TX5) (N := 17) hx hb hts (by decide +kernel) hown hK hP a (wld_o ct ad G M100 hc hk (by decide)) rfl 8 (by decide) (hts (.fieldLink RX5 96 "VideoSuite$Reader" "range" "I") (by decide +kernel)) (fun _ h9 => h9) rfl dX5_bit_127 ?_
        obtain ⟨x111, ex111, hF⟩ := ltt_some hF
        refine lv_topi (fun zx111 ezx111 => ?_)
        obtain rfl : x111 = zx111 := ex111.trans ezx111.symm
        refine lv_isub hx hb dX5_bit_130 ?_
        obtain ⟨x112, ex112, hF⟩ := ltt_some hF
        refine lv_topi (fun zx112 ezx112 => ?_)
        obtain rfl : x112 = zx112 := ex112.trans ezx112.symm
        refine va_put (D := D) (ci := 5) (v := .int x112) (ty := .int) (C := RX5) (T := TX5) (N := 17) hx hb hts (by decide +kernel) tyX5 tyX5_ok nmX5 hown hK hP hD hS a (wld_o ct ad G M100 hc hk (by decide)) rfl 9 (by decide) (hts (.fieldLink RX5 99 "VideoSuite$Reader" "offset" "I") (by decide +kernel)) (fun _ h9 => h9) rfl (by decide +kernel) rfl rfl (Nat.le_of_ble_eq_true rfl) dX5_bit_131 (fun H locs hP hD hS => ?_)
        obtain ⟨M113, eM113, hF⟩ := ltt_some hF
        rw [set_oI ct ad G M100 hc hk (by decide) (by rfl), ← eM113] at hP hD
        refine lv_aload_n hx hb dX5_bit_134 rfl (lv_at hl 5 rfl) ?_
        refine lv_iload hx hb dX5_bit_135 (lv_at hl 1 rfl) ?_
        refine va_put (D := D) (ci := 5) (v := .int x97) (ty := .int) (C := RX5) (T := TX5) (N := 17) hx hb hts (by decide +kernel) tyX5 tyX5_ok nmX5 hown hK hP hD hS a (wld_o ct ad G M113 hc hk (by decide)) rfl 8 (by decide) (hts (.fieldLink RX5 96 "VideoSuite$Reader" "range" "I") (by decide +kernel)) (fun _ h9 => h9) rfl (by decide +kernel) rfl rfl (Nat.le_of_ble_eq_true rfl) dX5_bit_137 (fun H locs hP hD hS => ?_)
        obtain ⟨M114, eM114, hF⟩ := ltt_some hF
        rw [set_oI ct ad G M113 hc hk (by decide) (by rfl), ← eM114] at hP hD
        refine lv_iload hx hb dX5_bit_140 (lv_at hl 3 rfl) ?_
        obtain ⟨y115, hy115, hF⟩ := bnd_some hF
        have J115 : ∀ (H : Heap) (locs : List Loc) (ls : Array Slot), va_P D classes (wld ct ad G M114) H → va_D A (wld ct ad G M114) → va_S A s.heap H locs → lv_has ls 8 [(3, .int x109), (7, .int x97), (6, .int x91), (5, .int x89), (4, .int x86), (0, .ref (ad a)), (1, .int p0), (2, .int p1)] → W p l e (headSpec wsX5_bit ({ frames := 0, cells := 0, slots := 0, locals := 0 })).room s m ([.ref (ad a), .int p0, .int p1] : List Value).toArray below meth c H locs 0 0 (MQ below (va_Qi (fun (q : Int32) (_ : Unit) => q = y.2) (fun _ t => kE D ct ad G A y.1 t) A) ([.ref (ad a), .int p0, .int p1] : List Value).toArray s 0 0 A) (F0 m 151 ls [.int y115]) := by
          intro H locs ls hP hD hS hl
          refine lv_istore (lv' := [(6, .int y115), (3, .int x109), (7, .int x97), (5, .int x89), (4, .int x86), (0, .ref (ad a)), (1, .int p0), (2, .int p1)]) hx hb dX5_bit_151 hl (by decide) rfl (fun ls hl => ?_)
          refine va_gets hx hb (hZ.1 7 (by decide)).1 hS hown (hts (.fieldLink RX5 102 "VideoSuite$Reader" "DOWN" "[I") (by decide +kernel)) (fun _ h => h) dX5_bit_153 ?_
          refine lv_iload hx hb dX5_bit_156 (lv_at hl 3 rfl) ?_
          obtain ⟨hvc, hF⟩ := chk_some hF
          refine va_ti (v := .int ((sT 7).getD x89.toNatClampNeg 0)) hx hb (hZ.1 7 (by decide)).2 hS hvc rfl dX5_bit_158 ?_
          obtain ⟨x116, ex116, hF⟩ := ltt_some hF
          refine lv_topi (fun zx116 ezx116 => ?_)
          obtain rfl : x116 = zx116 := ex116.trans ezx116.symm
          refine lv_istore (lv' := [(5, .int x116), (6, .int y115), (3, .int x109), (7, .int x97), (4, .int x86), (0, .ref (ad a)), (1, .int p0), (2, .int p1)]) hx hb dX5_bit_159 hl (by decide) rfl (fun ls hl => ?_)
          obtain rfl := Option.some.inj hF
          exact J103 _ _ _ hP hD hS (lv_sub hl [2, 3, 1, 0, 4, 5, 6, 7] rfl)
        clear hF
        have hF := hy115
        clear hy115
        refine lv_if_ne (tgt := 149) hx hb dX5_bit_142 (by decide) (fun c117 => ?_) (fun c117 => ?_)
        · rw [if_neg c117] at hF
          refine lv_iload hx hb dX5_bit_149 (lv_at hl 2 rfl) ?_
          obtain rfl := Option.some.inj hF
          exact J115 _ _ _ hP hD hS (lv_sub hl [0, 1, 2, 3, 4, 5, 6, 7] rfl)
        · rw [if_pos c117] at hF
          refine lv_iload_n hx hb dX5_bit_145 rfl (lv_at hl 0 rfl) ?_
          refine lv_goto (tgt := 151) hx hb dX5_bit_146 (by decide) ?_
          obtain rfl := Option.some.inj hF
          exact J115 _ _ _ hP hD hS (lv_sub hl [0, 1, 2, 3, 4, 5, 6, 7] rfl)
      · rw [if_neg c108] at hF
        refine lv_iload hx hb dX5_bit_95 (lv_at hl 3 rfl) ?_
        refine lv_bipush (v := (62 : Int32)) hx hb dX5_bit_97 (by decide) ?_
        obtain ⟨y118, hy118, hF⟩ := bnd_some hF
        have J118 : ∀ (H : Heap) (locs : List Loc) (ls : Array Slot), va_P D classes (wld ct ad G M100) H → va_D A (wld ct ad G M100) → va_S A s.heap H locs → lv_has ls 8 [(3, .int x91), (7, .int x97), (6, .int x91), (5, .int x89), (4, .int x86), (0, .ref (ad a)), (1, .int p0), (2, .int p1)] → W p l e (headSpec wsX5_bit ({ frames := 0, cells := 0, slots := 0, locals := 0 })).room s m ([.ref (ad a), .int p0, .int p1] : List Value).toArray below meth c H locs 0 0 (MQ below (va_Qi (fun (q : Int32) (_ : Unit) => q = y.2) (fun _ t => kE D ct ad G A y.1 t) A) ([.ref (ad a), .int p0, .int p1] : List Value).toArray s 0 0 A) (F0 m 111 ls [.int y118]) := by
          intro H locs ls hP hD hS hl
          refine lv_istore (lv' := [(5, .int y118), (3, .int x91), (7, .int x97), (6, .int x91), (4, .int x86), (0, .ref (ad a)), (1, .int p0), (2, .int p1)]) hx hb dX5_bit_111 hl (by decide) rfl (fun ls hl => ?_)
          refine lv_goto (tgt := 161) hx hb dX5_bit_113 (by decide) ?_
          obtain rfl := Option.some.inj hF
          exact J103 _ _ _ hP hD hS (lv_sub hl [1, 2, 3, 0, 4, 5, 6, 7] rfl)
        clear hF
        have hF := hy118
        clear hy118
        refine lv_icmp_ge (tgt := 109) hx hb dX5_bit_99 (by decide) (fun c119 => ?_) (fun c119 => ?_)
        · rw [if_pos c119] at hF
          refine lv_bipush (v := (62 : Int32)) hx hb dX5_bit_109 (by decide) ?_
          obtain rfl := Option.some.inj hF
          exact J118 _ _ _ hP hD hS (lv_sub hl [0, 1, 2, 3, 4, 5, 6, 7] rfl)
        · rw [if_neg c119] at hF
          refine lv_iload hx hb dX5_bit_102 (lv_at hl 3 rfl) ?_
          refine lv_iconst (v := (1 : Int32)) hx hb dX5_bit_104 (by decide) ?_
          refine lv_iadd hx hb dX5_bit_105 ?_
          obtain ⟨x120, ex120, hF⟩ := ltt_some hF
          refine lv_topi (fun zx120 ezx120 => ?_)
          obtain rfl : x120 = zx120 := ex120.trans ezx120.symm
          refine lv_goto (tgt := 111) hx hb dX5_bit_106 (by decide) ?_
          obtain rfl := Option.some.inj hF
          exact J118 _ _ _ hP hD hS (lv_sub hl [0, 1, 2, 3, 4, 5, 6, 7] rfl)
    clear hF
    have hF := hy85
    clear hy85
    refine lv_icmp_ge (tgt := 23) hx hb dX5_bit_16 (by decide) (fun c121 => ?_) (fun c121 => ?_)
    · rw [if_pos c121] at hF
      refine lv_bipush (v := (15 : Int32)) hx hb dX5_bit_23 (by decide) ?_
      obtain rfl := Option.some.inj hF
      exact J85 _ _ _ hP hD hS (lv_sub hl [0, 1, 2, 3] rfl)
    · rw [if_neg c121] at hF
      refine lv_iload_n hx hb dX5_bit_19 rfl (lv_at hl 3 rfl) ?_
      refine lv_goto (tgt := 25) hx hb dX5_bit_20 (by decide) ?_
      obtain rfl := Option.some.inj hF
      exact J85 _ _ _ hP hD hS (lv_sub hl [0, 1, 2, 3] rfl)
