theorem dX6_lumaAt_0 : decode cX6_lumaAt 0 = .ok (.bipush 16, 2) := by decide +kernel
theorem dX6_lumaAt_2 : decode cX6_lumaAt 2 = .ok (.iload_n 1, 1) := by decide +kernel
theorem dX6_lumaAt_3 : decode cX6_lumaAt 3 = .ok (.aload_n 0, 1) := by decide +kernel
theorem dX6_lumaAt_4 : decode cX6_lumaAt 4 = .ok (.getfield 83, 3) := by decide +kernel
theorem dX6_lumaAt_7 : decode cX6_lumaAt 7 = .ok (.idiv, 1) := by decide +kernel
theorem dX6_lumaAt_8 : decode cX6_lumaAt 8 = .ok (.imul, 1) := by decide +kernel
theorem dX6_lumaAt_9 : decode cX6_lumaAt 9 = .ok (.iload_n 3, 1) := by decide +kernel
theorem dX6_lumaAt_10 : decode cX6_lumaAt 10 = .ok (.iadd, 1) := by decide +kernel
theorem dX6_lumaAt_11 : decode cX6_lumaAt 11 = .ok (.bipush 16, 2) := by decide +kernel
theorem dX6_lumaAt_13 : decode cX6_lumaAt 13 = .ok (.imul, 1) := by decide +kernel
theorem dX6_lumaAt_14 : decode cX6_lumaAt 14 = .ok (.aload_n 0, 1) := by decide +kernel
theorem dX6_lumaAt_15 : decode cX6_lumaAt 15 = .ok (.getfield 83, 3) := by decide +kernel
theorem dX6_lumaAt_18 : decode cX6_lumaAt 18 = .ok (.imul, 1) := by decide +kernel
theorem dX6_lumaAt_19 : decode cX6_lumaAt 19 = .ok (.bipush 16, 2) := by decide +kernel
theorem dX6_lumaAt_21 : decode cX6_lumaAt 21 = .ok (.iload_n 1, 1) := by decide +kernel
theorem dX6_lumaAt_22 : decode cX6_lumaAt 22 = .ok (.aload_n 0, 1) := by decide +kernel
theorem dX6_lumaAt_23 : decode cX6_lumaAt 23 = .ok (.getfield 83, 3) := by decide +kernel
theorem dX6_lumaAt_26 : decode cX6_lumaAt 26 = .ok (.irem, 1) := by decide +kernel
theorem dX6_lumaAt_27 : decode cX6_lumaAt 27 = .ok (.imul, 1) := by decide +kernel
theorem dX6_lumaAt_28 : decode cX6_lumaAt 28 = .ok (.iadd, 1) := by decide +kernel
theorem dX6_lumaAt_29 : decode cX6_lumaAt 29 = .ok (.iload_n 2, 1) := by decide +kernel
theorem dX6_lumaAt_30 : decode cX6_lumaAt 30 = .ok (.iadd, 1) := by decide +kernel
theorem dX6_lumaAt_31 : decode cX6_lumaAt 31 = .ok (.ireturn, 1) := by decide +kernel
def FX6_lumaAt (G : GG) (M : DD) (p0 : Option Nat) (p1 : Int32) (p2 : Int32) (p3 : Int32) : Option (DD × Int32) :=
  dr G 4 p0 fun b1 =>
  ltt (M.1 b1 1) fun x2 =>
  chk (¬ x2 = 0) <|
  ltt (p1 / x2) fun x3 =>
  ltt ((((16 : Int32)) * x3)) fun x4 =>
  ltt ((x4 + p3)) fun x5 =>
  ltt ((x5 * ((16 : Int32)))) fun x6 =>
  ltt (M.1 b1 1) fun x7 =>
  ltt ((x6 * x7)) fun x8 =>
  ltt (M.1 b1 1) fun x9 =>
  chk (¬ x9 = 0) <|
  ltt (p1 - p1 / x9 * x9) fun x10 =>
  ltt ((((16 : Int32)) * x10)) fun x11 =>
  ltt ((x8 + x11)) fun x12 =>
  ltt ((x12 + p2)) fun x13 =>
  some (M, x13)
set_option maxHeartbeats 4000000 in
set_option maxRecDepth 100000 in
theorem kX6_lumaAt (l : Launch) (D : va_G) (ct : CT) (ad : Nat → Nat) (Z : Nat → Nat) (G : GG) (M : DD) (sz : Nat) (p0 : Option Nat) (p1 : Int32) (p2 : Int32) (p3 : Int32) (y : DD × Int32) (hF : FX6_lumaAt G M p0 p1 p2 p3 = some y) : Met l yX6_lumaAt wsX6_lumaAt ({ frames := 0, cells := 0, slots := 0, locals := 0 }) (va_Pc [va_re ad p0, .int p1, .int p2, .int p3] (kB D ct ad Z G M sz)) (va_Qi (fun (q : Int32) (_ : Unit) => q = y.2) (fun _ t => kE D ct ad G (wA ad G sz) y.1 t) (wA ad G sz)) 0 0 (wA ad G sz) := by
  refine Met.ofW (cc := cX6_lumaAt) (maxL := 4) (ret := (some .int)) (by decide) rfl ?_
  intro p e s m args below meth c s₁ B hml hv
  obtain ⟨rfl, hsz, hP, hK, hD0, hZ, hN⟩ := hv
  have hx := B.exec
  have hb := B.bytes
  have hr := B.returns
  have hts := atoms_spec (ws := wsX6_lumaAt) B.pre
  have hown : s.vm.findClass RX6 = some m.cls := findClass_of_methodNamed B.named
  have hlocks := B.notSynchronized
  subst hsz
  have hD := wD_self (sz := s.heap.size) hD0
  have hA9 : ∀ q, s.heap.size ≤ q → wA ad G s.heap.size q := fun q h => Or.inr h
  generalize hAe : wA ad G s.heap.size = A at hD hA9 hZ ⊢
  have hS : va_S A s.heap s.heap [] := va_S.rf
  have hl := lv_entry ([va_re ad p0, .int p1, .int p2, .int p3]) (n := 4) (by cases p0 <;> exact Nat.le_of_ble_eq_true rfl)
  rw [lg_entry_eq]
  generalize (lg_sl ([va_re ad p0, .int p1, .int p2, .int p3]) ++ List.replicate (4 - (lg_sl ([va_re ad p0, .int p1, .int p2, .int p3])).length) Slot.unset).toArray = ls at hl ⊢
  have hl : lv_has ls 4 [(0, va_re ad p0), (1, .int p1), (2, .int p2), (3, .int p3)] := by have e9 : lv_args 0 [va_re ad p0, .int p1, .int p2, .int p3] = [(0, va_re ad p0), (1, .int p1), (2, .int p2), (3, .int p3)] := (by cases p0 <;> rfl); rw [e9] at hl; exact hl
  unfold FX6_lumaAt at hF
  refine lv_bipush (v := (16 : Int32)) hx hb dX6_lumaAt_0 (by decide) ?_
  refine lv_iload_n hx hb dX6_lumaAt_2 rfl (lv_at hl 1 rfl) ?_
  refine lv_aloadq_n hx hb dX6_lumaAt_3 rfl (lv_at hl 0 rfl) ?_
  obtain ⟨b1, ho1, hc1, hk1, hF⟩ := dr_some hF
  refine W_st (st' := [.ref (ad b1), .int p1, .int (16 : Int32)]) (by rw [va_some ho1]) ?_
  refine va_get (D := D) (ci := 4) (v := .int (M.1 b1 1)) (C := RX4) (T := TX4) (N := 18) hx hb hts (by decide +kernel) hown hK hP b1 (wld_o ct ad G M hc1 hk1 (by decide)) rfl 1 (by decide) (hts (.fieldLink RX6 83 "VideoSuite$Picture" "width" "I") (by decide +kernel)) (fun _ h9 => h9) rfl dX6_lumaAt_4 ?_
  obtain ⟨x2, ex2, hF⟩ := ltt_some hF
  refine lv_topi (fun zx2 ezx2 => ?_)
  obtain rfl : x2 = zx2 := ex2.trans ezx2.symm
  obtain ⟨hne, hF⟩ := chk_some hF
  refine lv_idiv hx hb dX6_lumaAt_7 hne ?_
  obtain ⟨x3, ex3, hF⟩ := ltt_some hF
  refine lv_topi (fun zx3 ezx3 => ?_)
  obtain rfl : x3 = zx3 := ex3.trans ezx3.symm
  refine lv_imul hx hb dX6_lumaAt_8 ?_
  obtain ⟨x4, ex4, hF⟩ := ltt_some hF
  refine lv_topi (fun zx4 ezx4 => ?_)
  obtain rfl : x4 = zx4 := ex4.trans ezx4.symm
  refine lv_iload_n hx hb dX6_lumaAt_9 rfl (lv_at hl 3 rfl) ?_
  refine lv_iadd hx hb dX6_lumaAt_10 ?_
  obtain ⟨x5, ex5, hF⟩ := ltt_some hF
  refine lv_topi (fun zx5 ezx5 => ?_)
  obtain rfl : x5 = zx5 := ex5.trans ezx5.symm
  refine lv_bipush (v := (16 : Int32)) hx hb dX6_lumaAt_11 (by decide) ?_
  refine lv_imul hx hb dX6_lumaAt_13 ?_
  obtain ⟨x6, ex6, hF⟩ := ltt_some hF
  refine lv_topi (fun zx6 ezx6 => ?_)
  obtain rfl : x6 = zx6 := ex6.trans ezx6.symm
  refine lv_aloadq_n hx hb dX6_lumaAt_14 rfl (lv_at hl 0 rfl) ?_
  refine W_st (st' := [.ref (ad b1), .int x6]) (by rw [va_some ho1]) ?_
  refine va_get (D := D) (ci := 4) (v := .int (M.1 b1 1)) (C := RX4) (T := TX4) (N := 18) hx hb hts (by decide +kernel) hown hK hP b1 (wld_o ct ad G M hc1 hk1 (by decide)) rfl 1 (by decide) (hts (.fieldLink RX6 83 "VideoSuite$Picture" "width" "I") (by decide +kernel)) (fun _ h9 => h9) rfl dX6_lumaAt_15 ?_
  obtain ⟨x7, ex7, hF⟩ := ltt_some hF
  refine lv_topi (fun zx7 ezx7 => ?_)
  obtain rfl : x7 = zx7 := ex7.trans ezx7.symm
  refine lv_imul hx hb dX6_lumaAt_18 ?_
  obtain ⟨x8, ex8, hF⟩ := ltt_some hF
  refine lv_topi (fun zx8 ezx8 => ?_)
  obtain rfl : x8 = zx8 := ex8.trans ezx8.symm
  refine lv_bipush (v := (16 : Int32)) hx hb dX6_lumaAt_19 (by decide) ?_
  refine lv_iload_n hx hb dX6_lumaAt_21 rfl (lv_at hl 1 rfl) ?_
  refine lv_aloadq_n hx hb dX6_lumaAt_22 rfl (lv_at hl 0 rfl) ?_
  refine W_st (st' := [.ref (ad b1), .int p1, .int (16 : Int32), .int x8]) (by rw [va_some ho1]) ?_
  refine va_get (D := D) (ci := 4) (v := .int (M.1 b1 1)) (C := RX4) (T := TX4) (N := 18) hx hb hts (by decide +kernel) hown hK hP b1 (wld_o ct ad G M hc1 hk1 (by decide)) rfl 1 (by decide) (hts (.fieldLink RX6 83 "VideoSuite$Picture" "width" "I") (by decide +kernel)) (fun _ h9 => h9) rfl dX6_lumaAt_23 ?_
  obtain ⟨x9, ex9, hF⟩ := ltt_some hF
  refine lv_topi (fun zx9 ezx9 => ?_)
  obtain rfl : x9 = zx9 := ex9.trans ezx9.symm
  obtain ⟨hne, hF⟩ := chk_some hF
  refine lv_irem hx hb dX6_lumaAt_26 hne ?_
  obtain ⟨x10, ex10, hF⟩ := ltt_some hF
  refine lv_topi (fun zx10 ezx10 => ?_)
  obtain rfl : x10 = zx10 := ex10.trans ezx10.symm
  refine lv_imul hx hb dX6_lumaAt_27 ?_
  obtain ⟨x11, ex11, hF⟩ := ltt_some hF
  refine lv_topi (fun zx11 ezx11 => ?_)
  obtain rfl : x11 = zx11 := ex11.trans ezx11.symm
  refine lv_iadd hx hb dX6_lumaAt_28 ?_
  obtain ⟨x12, ex12, hF⟩ := ltt_some hF
  refine lv_topi (fun zx12 ezx12 => ?_)
  obtain rfl : x12 = zx12 := ex12.trans ezx12.symm
  refine lv_iload_n hx hb dX6_lumaAt_29 rfl (lv_at hl 2 rfl) ?_
  refine lv_iadd hx hb dX6_lumaAt_30 ?_
  obtain ⟨x13, ex13, hF⟩ := ltt_some hF
  refine lv_topi (fun zx13 ezx13 => ?_)
  obtain rfl : x13 = zx13 := ex13.trans ezx13.symm
  obtain rfl := Option.some.inj hF
  exact W.iret (v := x13) hx hb hr (fun t ht hW => ⟨⟨_, (), rfl, rfl, ⟨by rw [ht]; exact hP, va_K.moved hW.alike hK, hD⟩⟩, hS.F ht⟩) hS.2.2 dX6_lumaAt_31
theorem dX6_meanAround_0 : decode cX6_meanAround 0 = .ok (.aload_n 0, 1) := by decide +kernel
theorem dX6_meanAround_1 : decode cX6_meanAround 1 = .ok (.getfield 36, 3) := by decide +kernel
theorem dX6_meanAround_4 : decode cX6_meanAround 4 = .ok (.iconst 0, 1) := by decide +kernel
theorem dX6_meanAround_5 : decode cX6_meanAround 5 = .ok (.iaload, 1) := by decide +kernel
theorem dX6_meanAround_6 : decode cX6_meanAround 6 = .ok (.aload_n 0, 1) := by decide +kernel
theorem dX6_meanAround_7 : decode cX6_meanAround 7 = .ok (.getfield 36, 3) := by decide +kernel
theorem dX6_meanAround_10 : decode cX6_meanAround 10 = .ok (.iconst 1, 1) := by decide +kernel
theorem dX6_meanAround_11 : decode cX6_meanAround 11 = .ok (.iaload, 1) := by decide +kernel
theorem dX6_meanAround_12 : decode cX6_meanAround 12 = .ok (.iadd, 1) := by decide +kernel
theorem dX6_meanAround_13 : decode cX6_meanAround 13 = .ok (.aload_n 0, 1) := by decide +kernel
theorem dX6_meanAround_14 : decode cX6_meanAround 14 = .ok (.getfield 36, 3) := by decide +kernel
theorem dX6_meanAround_17 : decode cX6_meanAround 17 = .ok (.iconst 2, 1) := by decide +kernel
theorem dX6_meanAround_18 : decode cX6_meanAround 18 = .ok (.iaload, 1) := by decide +kernel
theorem dX6_meanAround_19 : decode cX6_meanAround 19 = .ok (.iadd, 1) := by decide +kernel
theorem dX6_meanAround_20 : decode cX6_meanAround 20 = .ok (.aload_n 0, 1) := by decide +kernel
theorem dX6_meanAround_21 : decode cX6_meanAround 21 = .ok (.getfield 36, 3) := by decide +kernel
theorem dX6_meanAround_24 : decode cX6_meanAround 24 = .ok (.iconst 3, 1) := by decide +kernel
theorem dX6_meanAround_25 : decode cX6_meanAround 25 = .ok (.iaload, 1) := by decide +kernel
theorem dX6_meanAround_26 : decode cX6_meanAround 26 = .ok (.iadd, 1) := by decide +kernel
theorem dX6_meanAround_27 : decode cX6_meanAround 27 = .ok (.istore_n 2, 1) := by decide +kernel
theorem dX6_meanAround_28 : decode cX6_meanAround 28 = .ok (.aload_n 0, 1) := by decide +kernel
theorem dX6_meanAround_29 : decode cX6_meanAround 29 = .ok (.getfield 36, 3) := by decide +kernel
theorem dX6_meanAround_32 : decode cX6_meanAround 32 = .ok (.iconst 5, 1) := by decide +kernel
theorem dX6_meanAround_33 : decode cX6_meanAround 33 = .ok (.iaload, 1) := by decide +kernel
theorem dX6_meanAround_34 : decode cX6_meanAround 34 = .ok (.aload_n 0, 1) := by decide +kernel
theorem dX6_meanAround_35 : decode cX6_meanAround 35 = .ok (.getfield 36, 3) := by decide +kernel
theorem dX6_meanAround_38 : decode cX6_meanAround 38 = .ok (.bipush 6, 2) := by decide +kernel
theorem dX6_meanAround_40 : decode cX6_meanAround 40 = .ok (.iaload, 1) := by decide +kernel
theorem dX6_meanAround_41 : decode cX6_meanAround 41 = .ok (.iadd, 1) := by decide +kernel
theorem dX6_meanAround_42 : decode cX6_meanAround 42 = .ok (.aload_n 0, 1) := by decide +kernel
theorem dX6_meanAround_43 : decode cX6_meanAround 43 = .ok (.getfield 36, 3) := by decide +kernel
theorem dX6_meanAround_46 : decode cX6_meanAround 46 = .ok (.bipush 7, 2) := by decide +kernel
theorem dX6_meanAround_48 : decode cX6_meanAround 48 = .ok (.iaload, 1) := by decide +kernel
theorem dX6_meanAround_49 : decode cX6_meanAround 49 = .ok (.iadd, 1) := by decide +kernel
theorem dX6_meanAround_50 : decode cX6_meanAround 50 = .ok (.aload_n 0, 1) := by decide +kernel
theorem dX6_meanAround_51 : decode cX6_meanAround 51 = .ok (.getfield 36, 3) := by decide +kernel
theorem dX6_meanAround_54 : decode cX6_meanAround 54 = .ok (.bipush 8, 2) := by decide +kernel
theorem dX6_meanAround_56 : decode cX6_meanAround 56 = .ok (.iaload, 1) := by decide +kernel
theorem dX6_meanAround_57 : decode cX6_meanAround 57 = .ok (.iadd, 1) := by decide +kernel
theorem dX6_meanAround_58 : decode cX6_meanAround 58 = .ok (.istore_n 3, 1) := by decide +kernel
theorem dX6_meanAround_59 : decode cX6_meanAround 59 = .ok (.iload_n 1, 1) := by decide +kernel
theorem dX6_meanAround_60 : decode cX6_meanAround 60 = .ok (.iconst 3, 1) := by decide +kernel
theorem dX6_meanAround_61 : decode cX6_meanAround 61 = .ok (.iand, 1) := by decide +kernel
theorem dX6_meanAround_62 : decode cX6_meanAround 62 = .ok (.tableswitch 42 0 2 #[26, 30, 36], 26) := by decide +kernel
theorem dX6_meanAround_88 : decode cX6_meanAround 88 = .ok (.sipush 128, 3) := by decide +kernel
theorem dX6_meanAround_91 : decode cX6_meanAround 91 = .ok (.ireturn, 1) := by decide +kernel
theorem dX6_meanAround_92 : decode cX6_meanAround 92 = .ok (.iload_n 2, 1) := by decide +kernel
theorem dX6_meanAround_93 : decode cX6_meanAround 93 = .ok (.iconst 2, 1) := by decide +kernel
theorem dX6_meanAround_94 : decode cX6_meanAround 94 = .ok (.iadd, 1) := by decide +kernel
theorem dX6_meanAround_95 : decode cX6_meanAround 95 = .ok (.iconst 2, 1) := by decide +kernel
theorem dX6_meanAround_96 : decode cX6_meanAround 96 = .ok (.ishr, 1) := by decide +kernel
theorem dX6_meanAround_97 : decode cX6_meanAround 97 = .ok (.ireturn, 1) := by decide +kernel
theorem dX6_meanAround_98 : decode cX6_meanAround 98 = .ok (.iload_n 3, 1) := by decide +kernel
theorem dX6_meanAround_99 : decode cX6_meanAround 99 = .ok (.iconst 2, 1) := by decide +kernel
theorem dX6_meanAround_100 : decode cX6_meanAround 100 = .ok (.iadd, 1) := by decide +kernel
theorem dX6_meanAround_101 : decode cX6_meanAround 101 = .ok (.iconst 2, 1) := by decide +kernel
theorem dX6_meanAround_102 : decode cX6_meanAround 102 = .ok (.ishr, 1) := by decide +kernel
theorem dX6_meanAround_103 : decode cX6_meanAround 103 = .ok (.ireturn, 1) := by decide +kernel
theorem dX6_meanAround_104 : decode cX6_meanAround 104 = .ok (.iload_n 2, 1) := by decide +kernel
theorem dX6_meanAround_105 : decode cX6_meanAround 105 = .ok (.iload_n 3, 1) := by decide +kernel
theorem dX6_meanAround_106 : decode cX6_meanAround 106 = .ok (.iadd, 1) := by decide +kernel
theorem dX6_meanAround_107 : decode cX6_meanAround 107 = .ok (.iconst 4, 1) := by decide +kernel
theorem dX6_meanAround_108 : decode cX6_meanAround 108 = .ok (.iadd, 1) := by decide +kernel
theorem dX6_meanAround_109 : decode cX6_meanAround 109 = .ok (.iconst 3, 1) := by decide +kernel
theorem dX6_meanAround_110 : decode cX6_meanAround 110 = .ok (.ishr, 1) := by decide +kernel
theorem dX6_meanAround_111 : decode cX6_meanAround 111 = .ok (.ireturn, 1) := by decide +kernel
def FX6_meanAround (G : GG) (M : DD) (a : Nat) (p0 : Int32) : Option (DD × Int32) :=
  dr G 13 ((M.2 a 8)) fun b1 =>
  chk (¬ (((0 : Int32)) < 0 ∨ G.2.2 b1 ≤ ((0 : Int32)).toNatClampNeg)) <|
  ltt (M.1 b1 ((0 : Int32)).toNatClampNeg) fun x2 =>
  chk (¬ (((1 : Int32)) < 0 ∨ G.2.2 b1 ≤ ((1 : Int32)).toNatClampNeg)) <|
  ltt (M.1 b1 ((1 : Int32)).toNatClampNeg) fun x3 =>
  ltt ((x2 + x3)) fun x4 =>
  chk (¬ (((2 : Int32)) < 0 ∨ G.2.2 b1 ≤ ((2 : Int32)).toNatClampNeg)) <|
  ltt (M.1 b1 ((2 : Int32)).toNatClampNeg) fun x5 =>
  ltt ((x4 + x5)) fun x6 =>
  chk (¬ (((3 : Int32)) < 0 ∨ G.2.2 b1 ≤ ((3 : Int32)).toNatClampNeg)) <|
  ltt (M.1 b1 ((3 : Int32)).toNatClampNeg) fun x7 =>
  ltt ((x6 + x7)) fun x8 =>
  chk (¬ (((5 : Int32)) < 0 ∨ G.2.2 b1 ≤ ((5 : Int32)).toNatClampNeg)) <|
  ltt (M.1 b1 ((5 : Int32)).toNatClampNeg) fun x9 =>
  chk (¬ (((6 : Int32)) < 0 ∨ G.2.2 b1 ≤ ((6 : Int32)).toNatClampNeg)) <|
  ltt (M.1 b1 ((6 : Int32)).toNatClampNeg) fun x10 =>
  ltt ((x9 + x10)) fun x11 =>
  chk (¬ (((7 : Int32)) < 0 ∨ G.2.2 b1 ≤ ((7 : Int32)).toNatClampNeg)) <|
  ltt (M.1 b1 ((7 : Int32)).toNatClampNeg) fun x12 =>
  ltt ((x11 + x12)) fun x13 =>
  chk (¬ (((8 : Int32)) < 0 ∨ G.2.2 b1 ≤ ((8 : Int32)).toNatClampNeg)) <|
  ltt (M.1 b1 ((8 : Int32)).toNatClampNeg) fun x14 =>
  ltt ((x13 + x14)) fun x15 =>
  ltt ((p0 &&& ((3 : Int32)))) fun x16 =>
  if x16 = (0 : Int32) then (some (M, (128 : Int32))) else
  (if x16 = (1 : Int32) then (ltt ((x8 + ((2 : Int32)))) fun x19 =>
  ltt ((x19 >>> (((2 : Int32)) &&& 31))) fun x20 =>
  some (M, x20)) else
  (if x16 = (2 : Int32) then (ltt ((x15 + ((2 : Int32)))) fun x22 =>
  ltt ((x22 >>> (((2 : Int32)) &&& 31))) fun x23 =>
  some (M, x23)) else
  (chk (x16.toInt < 0 ∨ 2 < x16.toInt) <|
  ltt ((x8 + x15)) fun x24 =>
  ltt ((x24 + ((4 : Int32)))) fun x25 =>
  ltt ((x25 >>> (((3 : Int32)) &&& 31))) fun x26 =>
  some (M, x26))))
set_option maxHeartbeats 4000000 in
set_option maxRecDepth 100000 in
theorem kX6_meanAround (l : Launch) (D : va_G) (ct : CT) (ad : Nat → Nat) (Z : Nat → Nat) (G : GG) (M : DD) (sz : Nat) (a : Nat) (p0 : Int32) (y : DD × Int32) (hc : a < G.1) (hk : G.2.1 a = 6) (hF : FX6_meanAround G M a p0 = some y) : Met l yX6_meanAround wsX6_meanAround ({ frames := 0, cells := 0, slots := 0, locals := 0 }) (va_Pc [.ref (ad a), .int p0] (kB D ct ad Z G M sz)) (va_Qi (fun (q : Int32) (_ : Unit) => q = y.2) (fun _ t => kE D ct ad G (wA ad G sz) y.1 t) (wA ad G sz)) 0 0 (wA ad G sz) := by
  refine Met.ofW (cc := cX6_meanAround) (maxL := 4) (ret := (some .int)) (by decide) rfl ?_
  intro p e s m args below meth c s₁ B hml hv
  obtain ⟨rfl, hsz, hP, hK, hD0, hZ, hN⟩ := hv
  have hx := B.exec
  have hb := B.bytes
  have hr := B.returns
  have hts := atoms_spec (ws := wsX6_meanAround) B.pre
  have hown : s.vm.findClass RX6 = some m.cls := findClass_of_methodNamed B.named
  have hlocks := B.notSynchronized
  subst hsz
  have hD := wD_self (sz := s.heap.size) hD0
  have hA9 : ∀ q, s.heap.size ≤ q → wA ad G s.heap.size q := fun q h => Or.inr h
  generalize hAe : wA ad G s.heap.size = A at hD hA9 hZ ⊢
  have hS : va_S A s.heap s.heap [] := va_S.rf
  have hl := lv_entry ([.ref (ad a), .int p0]) (n := 4) (Nat.le_of_ble_eq_true rfl)
  rw [lg_entry_eq]
  generalize (lg_sl ([.ref (ad a), .int p0]) ++ List.replicate (4 - (lg_sl ([.ref (ad a), .int p0])).length) Slot.unset).toArray = ls at hl ⊢
  have hl : lv_has ls 4 [(0, .ref (ad a)), (1, .int p0)] := hl
  unfold FX6_meanAround at hF
  refine lv_aload_n hx hb dX6_meanAround_0 rfl (lv_at hl 0 rfl) ?_
  refine va_get (D := D) (ci := 6) (v := va_re ad (M.2 a 8)) (C := RX6) (T := TX6) (N := 14) hx hb hts (by decide +kernel) hown hK hP a (wld_o ct ad G M hc hk (by decide)) rfl 8 (by decide) (hts (.fieldLink RX6 36 "VideoSuite$Samples" "around" "[I") (by decide +kernel)) (fun _ h9 => h9) rfl dX6_meanAround_1 ?_
  refine lv_iconst (v := (0 : Int32)) hx hb dX6_meanAround_4 (by decide) ?_
  obtain ⟨b1, ho1, hc1, hk1, hF⟩ := dr_some hF
  refine W_st (st' := [.int (0 : Int32), .ref (ad b1)]) (by rw [va_some ho1]) ?_
  obtain ⟨hvc, hF⟩ := chk_some hF
  refine va_iald hx hb hK hP b1 1 (wld_i ct ad G M hc1 hk1) rfl hvc dX6_meanAround_5 ?_
  obtain ⟨x2, ex2, hF⟩ := ltt_some hF
  refine lv_topi (fun zx2 ezx2 => ?_)
  obtain rfl : x2 = zx2 := ex2.trans ezx2.symm
  refine lv_aload_n hx hb dX6_meanAround_6 rfl (lv_at hl 0 rfl) ?_
  refine va_get (D := D) (ci := 6) (v := va_re ad (M.2 a 8)) (C := RX6) (T := TX6) (N := 14) hx hb hts (by decide +kernel) hown hK hP a (wld_o ct ad G M hc hk (by decide)) rfl 8 (by decide) (hts (.fieldLink RX6 36 "VideoSuite$Samples" "around" "[I") (by decide +kernel)) (fun _ h9 => h9) rfl dX6_meanAround_7 ?_
  refine lv_iconst (v := (1 : Int32)) hx hb dX6_meanAround_10 (by decide) ?_
  refine W_st (st' := [.int (1 : Int32), .ref (ad b1), .int x2]) (by rw [va_some ho1]) ?_
  obtain ⟨hvc, hF⟩ := chk_some hF
  refine va_iald hx hb hK hP b1 1 (wld_i ct ad G M hc1 hk1) rfl hvc dX6_meanAround_11 ?_
  obtain ⟨x3, ex3, hF⟩ := ltt_some hF
  refine lv_topi (fun zx3 ezx3 => ?_)
  obtain rfl : x3 = zx3 := ex3.trans ezx3.symm
  refine lv_iadd hx hb dX6_meanAround_12 ?_
  obtain ⟨x4, ex4, hF⟩ := ltt_some hF
  refine lv_topi (fun zx4 ezx4 => ?_)
  obtain rfl : x4 = zx4 := ex4.trans ezx4.symm
  refine lv_aload_n hx hb dX6_meanAround_13 rfl (lv_at hl 0 rfl) ?_
  refine va_get (D := D) (ci := 6) (v := va_re ad (M.2 a 8)) (C := RX6) (T := TX6) (N := 14) hx hb hts (by decide +kernel) hown hK hP a (wld_o ct ad G M hc hk (by decide)) rfl 8 (by decide) (hts (.fieldLink RX6 36 "VideoSuite$Samples" "around" "[I") (by decide +kernel)) (fun _ h9 => h9) rfl dX6_meanAround_14 ?_
  refine lv_iconst (v := (2 : Int32)) hx hb dX6_meanAround_17 (by decide) ?_
  refine W_st (st' := [.int (2 : Int32), .ref (ad b1), .int x4]) (by rw [va_some ho1]) ?_
  obtain ⟨hvc, hF⟩ := chk_some hF
  refine va_iald hx hb hK hP b1 1 (wld_i ct ad G M hc1 hk1) rfl hvc dX6_meanAround_18 ?_
  obtain ⟨x5, ex5, hF⟩ := ltt_some hF
  refine lv_topi (fun zx5 ezx5 => ?_)
  obtain rfl : x5 = zx5 := ex5.trans ezx5.symm
  refine lv_iadd hx hb dX6_meanAround_19 ?_
  obtain ⟨x6, ex6, hF⟩ := ltt_some hF
  refine lv_topi (fun zx6 ezx6 => ?_)
  obtain rfl : x6 = zx6 := ex6.trans ezx6.symm
  refine lv_aload_n hx hb dX6_meanAround_20 rfl (lv_at hl 0 rfl) ?_
  refine va_get (D := D) (ci := 6) (v := va_re ad (M.2 a 8)) (C := RX6) (T := TX6) (N := 14) hx hb hts (by decide +kernel) hown hK hP a (wld_o ct ad G M hc hk (by decide)) rfl 8 (by decide) (hts (.fieldLink RX6 36 "VideoSuite$Samples" "around" "[I") (by decide +kernel)) (fun _ h9 => h9) rfl dX6_meanAround_21 ?_
  refine lv_iconst (v := (3 : Int32)) hx hb dX6_meanAround_24 (by decide) ?_
  refine W_st (st' := [.int (3 : Int32), .ref (ad b1), .int x6]) (by rw [va_some ho1]) ?_
  obtain ⟨hvc, hF⟩ := chk_some hF
  refine va_iald hx hb hK hP b1 1 (wld_i ct ad G M hc1 hk1) rfl hvc dX6_meanAround_25 ?_
  obtain ⟨x7, ex7, hF⟩ := ltt_some hF
  refine lv_topi (fun zx7 ezx7 => ?_)
  obtain rfl : x7 = zx7 := ex7.trans ezx7.symm
  refine lv_iadd hx hb dX6_meanAround_26 ?_
  obtain ⟨x8, ex8, hF⟩ := ltt_some hF
  refine lv_topi (fun zx8 ezx8 => ?_)
  obtain rfl : x8 = zx8 := ex8.trans ezx8.symm
  refine lv_istore_n (lv' := [(2, .int x8), (0, .ref (ad a)), (1, .int p0)]) hx hb dX6_meanAround_27 rfl hl (by decide) rfl (fun ls hl => ?_)
  refine lv_aload_n hx hb dX6_meanAround_28 rfl (lv_at hl 1 rfl) ?_
  refine va_get (D := D) (ci := 6) (v := va_re ad (M.2 a 8)) (C := RX6) (T := TX6) (N := 14) hx hb hts (by decide +kernel) hown hK hP a (wld_o ct ad G M hc hk (by decide)) rfl 8 (by decide) (hts (.fieldLink RX6 36 "VideoSuite$Samples" "around" "[I") (by decide +kernel)) (fun _ h9 => h9) rfl dX6_meanAround_29 ?_
  refine lv_iconst (v := (5 : Int32)) hx hb dX6_meanAround_32 (by decide) ?_
  refine W_st (st' := [.int (5 : Int32), .ref (ad b1)]) (by rw [va_some ho1]) ?_
  obtain ⟨hvc, hF⟩ := chk_some hF
  refine va_iald hx hb hK hP b1 1 (wld_i ct ad G M hc1 hk1) rfl hvc dX6_meanAround_33 ?_
  obtain ⟨x9, ex9, hF⟩ := ltt_some hF
  refine lv_topi (fun zx9 ezx9 => ?_)
  obtain rfl : x9 = zx9 := ex9.trans ezx9.symm
  refine lv_aload_n hx hb dX6_meanAround_34 rfl (lv_at hl 1 rfl) ?_
  refine va_get (D := D) (ci := 6) (v := va_re ad (M.2 a 8)) (C := RX6) (T := TX6) (N := 14) hx hb hts (by decide +kernel) hown hK hP a (wld_o ct ad G M hc hk (by decide)) rfl 8 (by decide) (hts (.fieldLink RX6 36 "VideoSuite$Samples" "around" "[I") (by decide +kernel)) (fun _ h9 => h9) rfl dX6_meanAround_35 ?_
  refine lv_bipush (v := (6 : Int32)) hx hb dX6_meanAround_38 (by decide) ?_
  refine W_st (st' := [.int (6 : Int32), .ref (ad b1), .int x9]) (by rw [va_some ho1]) ?_
  obtain ⟨hvc, hF⟩ := chk_some hF
  refine va_iald hx hb hK hP b1 1 (wld_i ct ad G M hc1 hk1) rfl hvc dX6_meanAround_40 ?_
  obtain ⟨x10, ex10, hF⟩ := ltt_some hF
  refine lv_topi (fun zx10 ezx10 => ?_)
  obtain rfl : x10 = zx10 := ex10.trans ezx10.symm
  refine lv_iadd hx hb dX6_meanAround_41 ?_
  obtain ⟨x11, ex11, hF⟩ := ltt_some hF
  refine lv_topi (fun zx11 ezx11 => ?_)
  obtain rfl : x11 = zx11 := ex11.trans ezx11.symm
  refine lv_aload_n hx hb dX6_meanAround_42 rfl (lv_at hl 1 rfl) ?_
  refine va_get (D := D) (ci := 6) (v := va_re ad (M.2 a 8)) (C := RX6) (T := TX6) (N := 14) hx hb hts (by decide +kernel) hown hK hP a (wld_o ct ad G M hc hk (by decide)) rfl 8 (by decide) (hts (.fieldLink RX6 36 "VideoSuite$Samples" "around" "[I") (by decide +kernel)) (fun _ h9 => h9) rfl dX6_meanAround_43 ?_
  refine lv_bipush (v := (7 : Int32)) hx hb dX6_meanAround_46 (by decide) ?_
  refine W_st (st' := [.int (7 : Int32), .ref (ad b1), .int x11]) (by rw [va_some ho1]) ?_
  obtain ⟨hvc, hF⟩ := chk_some hF
  refine va_iald hx hb hK hP b1 1 (wld_i ct ad G M hc1 hk1) rfl hvc dX6_meanAround_48 ?_
  obtain ⟨x12, ex12, hF⟩ := ltt_some hF
  refine lv_topi (fun zx12 ezx12 => ?_)
  obtain rfl : x12 = zx12 := ex12.trans ezx12.symm
  refine lv_iadd hx hb dX6_meanAround_49 ?_
  obtain ⟨x13, ex13, hF⟩ := ltt_some hF
  refine lv_topi (fun zx13 ezx13 => ?_)
  obtain rfl : x13 = zx13 := ex13.trans ezx13.symm
  refine lv_aload_n hx hb dX6_meanAround_50 rfl (lv_at hl 1 rfl) ?_
  refine va_get (D := D) (ci := 6) (v := va_re ad (M.2 a 8)) (C := RX6) (T := TX6) (N := 14) hx hb hts (by decide +kernel) hown hK hP a (wld_o ct ad G M hc hk (by decide)) rfl 8 (by decide) (hts (.fieldLink RX6 36 "VideoSuite$Samples" "around" "[I") (by decide +kernel)) (fun _ h9 => h9) rfl dX6_meanAround_51 ?_
  refine lv_bipush (v := (8 : Int32)) hx hb dX6_meanAround_54 (by decide) ?_
  refine W_st (st' := [.int (8 : Int32), .ref (ad b1), .int x13]) (by rw [va_some ho1]) ?_
  obtain ⟨hvc, hF⟩ := chk_some hF
  refine va_iald hx hb hK hP b1 1 (wld_i ct ad G M hc1 hk1) rfl hvc dX6_meanAround_56 ?_
  obtain ⟨x14, ex14, hF⟩ := ltt_some hF
  refine lv_topi (fun zx14 ezx14 => ?_)
  obtain rfl : x14 = zx14 := ex14.trans ezx14.symm
  refine lv_iadd hx hb dX6_meanAround_57 ?_
  obtain ⟨x15, ex15, hF⟩ := ltt_some hF
  refine lv_topi (fun zx15 ezx15 => ?_)
  obtain rfl : x15 = zx15 := ex15.trans ezx15.symm
  refine lv_istore_n (lv' := [(3, .int x15), (2, .int x8), (0, .ref (ad a)), (1, .int p0)]) hx hb dX6_meanAround_58 rfl hl (by decide) rfl (fun ls hl => ?_)
  refine lv_iload_n hx hb dX6_meanAround_59 rfl (lv_at hl 3 rfl) ?_
  refine lv_iconst (v := (3 : Int32)) hx hb dX6_meanAround_60 (by decide) ?_
  refine lv_iand hx hb dX6_meanAround_61 ?_
  obtain ⟨x16, ex16, hF⟩ := ltt_some hF
  refine lv_topi (fun zx16 ezx16 => ?_)
  obtain rfl : x16 = zx16 := ex16.trans ezx16.symm
  by_cases c17 : x16 = (0 : Int32)
  · rw [if_pos c17] at hF
    refine lv_tableIn (tgt := 88) hx hb dX6_meanAround_62 (by rw [c17]; decide) (by rw [c17]; decide) (by rw [c17]; rfl) (by decide) ?_
    refine lv_sipush (v := (128 : Int32)) hx hb dX6_meanAround_88 (by decide) ?_
    obtain rfl := Option.some.inj hF
    exact W.iret (v := (128 : Int32)) hx hb hr (fun t ht hW => ⟨⟨_, (), rfl, rfl, ⟨by rw [ht]; exact hP, va_K.moved hW.alike hK, hD⟩⟩, hS.F ht⟩) hS.2.2 dX6_meanAround_91
  · rw [if_neg c17] at hF
    by_cases c18 : x16 = (1 : Int32)
    · rw [if_pos c18] at hF
      refine lv_tableIn (tgt := 92) hx hb dX6_meanAround_62 (by rw [c18]; decide) (by rw [c18]; decide) (by rw [c18]; rfl) (by decide) ?_
      refine lv_iload_n hx hb dX6_meanAround_92 rfl (lv_at hl 1 rfl) ?_
      refine lv_iconst (v := (2 : Int32)) hx hb dX6_meanAround_93 (by decide) ?_
      refine lv_iadd hx hb dX6_meanAround_94 ?_
      obtain ⟨x19, ex19, hF⟩ := ltt_some hF
      refine lv_topi (fun zx19 ezx19 => ?_)
      obtain rfl : x19 = zx19 := ex19.trans ezx19.symm
      refine lv_iconst (v := (2 : Int32)) hx hb dX6_meanAround_95 (by decide) ?_
      refine lv_ishr hx hb dX6_meanAround_96 ?_
      obtain ⟨x20, ex20, hF⟩ := ltt_some hF
      refine lv_topi (fun zx20 ezx20 => ?_)
      obtain rfl : x20 = zx20 := ex20.trans ezx20.symm
      obtain rfl := Option.some.inj hF
      exact W.iret (v := x20) hx hb hr (fun t ht hW => ⟨⟨_, (), rfl, rfl, ⟨by rw [ht]; exact hP, va_K.moved hW.alike hK, hD⟩⟩, hS.F ht⟩) hS.2.2 dX6_meanAround_97
    · rw [if_neg c18] at hF
      by_cases c21 : x16 = (2 : Int32)
      · rw [if_pos c21] at hF
        refine lv_tableIn (tgt := 98) hx hb dX6_meanAround_62 (by rw [c21]; decide) (by rw [c21]; decide) (by rw [c21]; rfl) (by decide) ?_
        refine lv_iload_n hx hb dX6_meanAround_98 rfl (lv_at hl 0 rfl) ?_
        refine lv_iconst (v := (2 : Int32)) hx hb dX6_meanAround_99 (by decide) ?_
        refine lv_iadd hx hb dX6_meanAround_100 ?_
        obtain ⟨x22, ex22, hF⟩ := ltt_some hF
        refine lv_topi (fun zx22 ezx22 => ?_)
        obtain rfl : x22 = zx22 := ex22.trans ezx22.symm
        refine lv_iconst (v := (2 : Int32)) hx hb dX6_meanAround_101 (by decide) ?_
        refine lv_ishr hx hb dX6_meanAround_102 ?_
        obtain ⟨x23, ex23, hF⟩ := ltt_some hF
        refine lv_topi (fun zx23 ezx23 => ?_)
        obtain rfl : x23 = zx23 := ex23.trans ezx23.symm
        obtain rfl := Option.some.inj hF
        exact W.iret (v := x23) hx hb hr (fun t ht hW => ⟨⟨_, (), rfl, rfl, ⟨by rw [ht]; exact hP, va_K.moved hW.alike hK, hD⟩⟩, hS.F ht⟩) hS.2.2 dX6_meanAround_103
      · rw [if_neg c21] at hF
        obtain ⟨hsw, hF⟩ := chk_some hF
        refine lv_tableOut (tgt := 104) hx hb dX6_meanAround_62 hsw (by decide) ?_
        refine lv_iload_n hx hb dX6_meanAround_104 rfl (lv_at hl 1 rfl) ?_
        refine lv_iload_n hx hb dX6_meanAround_105 rfl (lv_at hl 0 rfl) ?_
        refine lv_iadd hx hb dX6_meanAround_106 ?_
        obtain ⟨x24, ex24, hF⟩ := ltt_some hF
        refine lv_topi (fun zx24 ezx24 => ?_)
        obtain rfl : x24 = zx24 := ex24.trans ezx24.symm
        refine lv_iconst (v := (4 : Int32)) hx hb dX6_meanAround_107 (by decide) ?_
        refine lv_iadd hx hb dX6_meanAround_108 ?_
        obtain ⟨x25, ex25, hF⟩ := ltt_some hF
        refine lv_topi (fun zx25 ezx25 => ?_)
        obtain rfl : x25 = zx25 := ex25.trans ezx25.symm
        refine lv_iconst (v := (3 : Int32)) hx hb dX6_meanAround_109 (by decide) ?_
        refine lv_ishr hx hb dX6_meanAround_110 ?_
        obtain ⟨x26, ex26, hF⟩ := ltt_some hF
        refine lv_topi (fun zx26 ezx26 => ?_)
        obtain rfl : x26 = zx26 := ex26.trans ezx26.symm
        obtain rfl := Option.some.inj hF
        exact W.iret (v := x26) hx hb hr (fun t ht hW => ⟨⟨_, (), rfl, rfl, ⟨by rw [ht]; exact hP, va_K.moved hW.alike hK, hD⟩⟩, hS.F ht⟩) hS.2.2 dX6_meanAround_111
theorem dX6_measured_0 : decode cX6_measured 0 = .ok (.iload_n 0, 1) := by decide +kernel
theorem dX6_measured_1 : decode cX6_measured 1 = .ok (.ifCond .ge 8, 3) := by decide +kernel
theorem dX6_measured_4 : decode cX6_measured 4 = .ok (.iload_n 0, 1) := by decide +kernel
theorem dX6_measured_5 : decode cX6_measured 5 = .ok (.ineg, 1) := by decide +kernel
theorem dX6_measured_6 : decode cX6_measured 6 = .ok (.goto 4, 3) := by decide +kernel
theorem dX6_measured_9 : decode cX6_measured 9 = .ok (.iload_n 0, 1) := by decide +kernel
theorem dX6_measured_10 : decode cX6_measured 10 = .ok (.iload_n 1, 1) := by decide +kernel
theorem dX6_measured_11 : decode cX6_measured 11 = .ok (.imul, 1) := by decide +kernel
theorem dX6_measured_12 : decode cX6_measured 12 = .ok (.iload_n 2, 1) := by decide +kernel
theorem dX6_measured_13 : decode cX6_measured 13 = .ok (.iadd, 1) := by decide +kernel
theorem dX6_measured_14 : decode cX6_measured 14 = .ok (.iload_n 3, 1) := by decide +kernel
theorem dX6_measured_15 : decode cX6_measured 15 = .ok (.ishr, 1) := by decide +kernel
theorem dX6_measured_16 : decode cX6_measured 16 = .ok (.istore 4, 2) := by decide +kernel
theorem dX6_measured_18 : decode cX6_measured 18 = .ok (.iload 4, 2) := by decide +kernel
theorem dX6_measured_20 : decode cX6_measured 20 = .ok (.sipush 2000, 3) := by decide +kernel
theorem dX6_measured_23 : decode cX6_measured 23 = .ok (.if_icmp .le 9, 3) := by decide +kernel
theorem dX6_measured_26 : decode cX6_measured 26 = .ok (.sipush 2000, 3) := by decide +kernel
theorem dX6_measured_29 : decode cX6_measured 29 = .ok (.goto 5, 3) := by decide +kernel
theorem dX6_measured_32 : decode cX6_measured 32 = .ok (.iload 4, 2) := by decide +kernel
theorem dX6_measured_34 : decode cX6_measured 34 = .ok (.istore 4, 2) := by decide +kernel
theorem dX6_measured_36 : decode cX6_measured 36 = .ok (.iload_n 0, 1) := by decide +kernel
theorem dX6_measured_37 : decode cX6_measured 37 = .ok (.ifCond .ge 9, 3) := by decide +kernel
theorem dX6_measured_40 : decode cX6_measured 40 = .ok (.iload 4, 2) := by decide +kernel
theorem dX6_measured_42 : decode cX6_measured 42 = .ok (.ineg, 1) := by decide +kernel
theorem dX6_measured_43 : decode cX6_measured 43 = .ok (.goto 5, 3) := by decide +kernel
theorem dX6_measured_46 : decode cX6_measured 46 = .ok (.iload 4, 2) := by decide +kernel
theorem dX6_measured_48 : decode cX6_measured 48 = .ok (.ireturn, 1) := by decide +kernel
def FX6_measured (G : GG) (M : DD) (p0 : Int32) (p1 : Int32) (p2 : Int32) (p3 : Int32) : Option (DD × Int32) :=
  bnd (if ((0 : Int32)) ≤ p0 then (some (p0)) else
  (ltt (-p0) fun x11 =>
  some (x11))) fun (y1 : Int32) =>
  ltt ((y1 * p1)) fun x2 =>
  ltt ((x2 + p2)) fun x3 =>
  ltt ((x3 >>> (p3 &&& 31))) fun x4 =>
  bnd (if x4 ≤ ((2000 : Int32)) then (some (x4)) else
  (some ((2000 : Int32)))) fun (y5 : Int32) =>
  bnd (if ((0 : Int32)) ≤ p0 then (some (y5)) else
  (ltt (-y5) fun x8 =>
  some (x8))) fun (y6 : Int32) =>
  some (M, y6)
set_option maxHeartbeats 4000000 in
set_option maxRecDepth 100000 in
theorem kX6_measured (l : Launch) (D : va_G) (ct : CT) (ad : Nat → Nat) (Z : Nat → Nat) (G : GG) (M : DD) (sz : Nat) (p0 : Int32) (p1 : Int32) (p2 : Int32) (p3 : Int32) (y : DD × Int32) (hF : FX6_measured G M p0 p1 p2 p3 = some y) : Met l yX6_measured wsX6_measured ({ frames := 0, cells := 0, slots := 0, locals := 0 }) (va_Pc [.int p0, .int p1, .int p2, .int p3] (kB D ct ad Z G M sz)) (va_Qi (fun (q : Int32) (_ : Unit) => q = y.2) (fun _ t => kE D ct ad G (wA ad G sz) y.1 t) (wA ad G sz)) 0 0 (wA ad G sz) := by
  refine Met.ofW (cc := cX6_measured) (maxL := 5) (ret := (some .int)) (by decide) rfl ?_
  intro p e s m args below meth c s₁ B hml hv
  obtain ⟨rfl, hsz, hP, hK, hD0, hZ, hN⟩ := hv
  have hx := B.exec
  have hb := B.bytes
  have hr := B.returns
  have hts := atoms_spec (ws := wsX6_measured) B.pre
  have hown : s.vm.findClass RX6 = some m.cls := findClass_of_methodNamed B.named
  have hlocks := B.notSynchronized
  subst hsz
  have hD := wD_self (sz := s.heap.size) hD0
  have hA9 : ∀ q, s.heap.size ≤ q → wA ad G s.heap.size q := fun q h => Or.inr h
  generalize hAe : wA ad G s.heap.size = A at hD hA9 hZ ⊢
  have hS : va_S A s.heap s.heap [] := va_S.rf
  have hl := lv_entry ([.int p0, .int p1, .int p2, .int p3]) (n := 5) (Nat.le_of_ble_eq_true rfl)
  rw [lg_entry_eq]
  generalize (lg_sl ([.int p0, .int p1, .int p2, .int p3]) ++ List.replicate (5 - (lg_sl ([.int p0, .int p1, .int p2, .int p3])).length) Slot.unset).toArray = ls at hl ⊢
  have hl : lv_has ls 5 [(0, .int p0), (1, .int p1), (2, .int p2), (3, .int p3)] := hl
  unfold FX6_measured at hF
  refine lv_iload_n hx hb dX6_measured_0 rfl (lv_at hl 0 rfl) ?_
  obtain ⟨y1, hy1, hF⟩ := bnd_some hF
  have J1 : ∀ (H : Heap) (locs : List Loc) (ls : Array Slot), va_P D classes (wld ct ad G M) H → va_D A (wld ct ad G M) → va_S A s.heap H locs → lv_has ls 5 [(0, .int p0), (1, .int p1), (2, .int p2), (3, .int p3)] → W p l e (headSpec wsX6_measured ({ frames := 0, cells := 0, slots := 0, locals := 0 })).room s m ([.int p0, .int p1, .int p2, .int p3] : List Value).toArray below meth c H locs 0 0 (MQ below (va_Qi (fun (q : Int32) (_ : Unit) => q = y.2) (fun _ t => kE D ct ad G A y.1 t) A) ([.int p0, .int p1, .int p2, .int p3] : List Value).toArray s 0 0 A) (F0 m 10 ls [.int y1]) := by
    intro H locs ls hP hD hS hl
    refine lv_iload_n hx hb dX6_measured_10 rfl (lv_at hl 1 rfl) ?_
    refine lv_imul hx hb dX6_measured_11 ?_
    obtain ⟨x2, ex2, hF⟩ := ltt_some hF
    refine lv_topi (fun zx2 ezx2 => ?_)
    obtain rfl : x2 = zx2 := ex2.trans ezx2.symm
    refine lv_iload_n hx hb dX6_measured_12 rfl (lv_at hl 2 rfl) ?_
    refine lv_iadd hx hb dX6_measured_13 ?_
    obtain ⟨x3, ex3, hF⟩ := ltt_some hF
    refine lv_topi (fun zx3 ezx3 => ?_)
    obtain rfl : x3 = zx3 := ex3.trans ezx3.symm
    refine lv_iload_n hx hb dX6_measured_14 rfl (lv_at hl 3 rfl) ?_
    refine lv_ishr hx hb dX6_measured_15 ?_
    obtain ⟨x4, ex4, hF⟩ := ltt_some hF
    refine lv_topi (fun zx4 ezx4 => ?_)
    obtain rfl : x4 = zx4 := ex4.trans ezx4.symm
    refine lv_istore (lv' := [(4, .int x4), (0, .int p0), (1, .int p1), (2, .int p2), (3, .int p3)]) hx hb dX6_measured_16 hl (by decide) rfl (fun ls hl => ?_)
    refine lv_iload hx hb dX6_measured_18 (lv_at hl 0 rfl) ?_
    refine lv_sipush (v := (2000 : Int32)) hx hb dX6_measured_20 (by decide) ?_
    obtain ⟨y5, hy5, hF⟩ := bnd_some hF
    have J5 : ∀ (H : Heap) (locs : List Loc) (ls : Array Slot), va_P D classes (wld ct ad G M) H → va_D A (wld ct ad G M) → va_S A s.heap H locs → lv_has ls 5 [(4, .int x4), (0, .int p0), (1, .int p1), (2, .int p2), (3, .int p3)] → W p l e (headSpec wsX6_measured ({ frames := 0, cells := 0, slots := 0, locals := 0 })).room s m ([.int p0, .int p1, .int p2, .int p3] : List Value).toArray below meth c H locs 0 0 (MQ below (va_Qi (fun (q : Int32) (_ : Unit) => q = y.2) (fun _ t => kE D ct ad G A y.1 t) A) ([.int p0, .int p1, .int p2, .int p3] : List Value).toArray s 0 0 A) (F0 m 34 ls [.int y5]) := by
      intro H locs ls hP hD hS hl
      refine lv_istore (lv' := [(4, .int y5), (0, .int p0), (1, .int p1), (2, .int p2), (3, .int p3)]) hx hb dX6_measured_34 hl (by decide) rfl (fun ls hl => ?_)
      refine lv_iload_n hx hb dX6_measured_36 rfl (lv_at hl 1 rfl) ?_
      obtain ⟨y6, hy6, hF⟩ := bnd_some hF
      have J6 : ∀ (H : Heap) (locs : List Loc) (ls : Array Slot), va_P D classes (wld ct ad G M) H → va_D A (wld ct ad G M) → va_S A s.heap H locs → lv_has ls 5 [(4, .int y5), (0, .int p0), (1, .int p1), (2, .int p2), (3, .int p3)] → W p l e (headSpec wsX6_measured ({ frames := 0, cells := 0, slots := 0, locals := 0 })).room s m ([.int p0, .int p1, .int p2, .int p3] : List Value).toArray below meth c H locs 0 0 (MQ below (va_Qi (fun (q : Int32) (_ : Unit) => q = y.2) (fun _ t => kE D ct ad G A y.1 t) A) ([.int p0, .int p1, .int p2, .int p3] : List Value).toArray s 0 0 A) (F0 m 48 ls [.int y6]) := by
        intro H locs ls hP hD hS hl
        obtain rfl := Option.some.inj hF
        exact W.iret (v := y6) hx hb hr (fun t ht hW => ⟨⟨_, (), rfl, rfl, ⟨by rw [ht]; exact hP, va_K.moved hW.alike hK, hD⟩⟩, hS.F ht⟩) hS.2.2 dX6_measured_48
      clear hF
      have hF := hy6
      clear hy6
      refine lv_if_ge (tgt := 46) hx hb dX6_measured_37 (by decide) (fun c7 => ?_) (fun c7 => ?_)
      · rw [if_pos c7] at hF
        refine lv_iload hx hb dX6_measured_46 (lv_at hl 0 rfl) ?_
        obtain rfl := Option.some.inj hF
        exact J6 _ _ _ hP hD hS (lv_sub hl [0, 1, 2, 3, 4] rfl)
      · rw [if_neg c7] at hF
        refine lv_iload hx hb dX6_measured_40 (lv_at hl 0 rfl) ?_
        refine lv_ineg hx hb dX6_measured_42 ?_
        obtain ⟨x8, ex8, hF⟩ := ltt_some hF
        refine lv_topi (fun zx8 ezx8 => ?_)
        obtain rfl : x8 = zx8 := ex8.trans ezx8.symm
        refine lv_goto (tgt := 48) hx hb dX6_measured_43 (by decide) ?_
        obtain rfl := Option.some.inj hF
        exact J6 _ _ _ hP hD hS (lv_sub hl [0, 1, 2, 3, 4] rfl)
    clear hF
    have hF := hy5
    clear hy5
    refine lv_icmp_le (tgt := 32) hx hb dX6_measured_23 (by decide) (fun c9 => ?_) (fun c9 => ?_)
    · rw [if_pos c9] at hF
      refine lv_iload hx hb dX6_measured_32 (lv_at hl 0 rfl) ?_
      obtain rfl := Option.some.inj hF
      exact J5 _ _ _ hP hD hS (lv_sub hl [0, 1, 2, 3, 4] rfl)
    · rw [if_neg c9] at hF
      refine lv_sipush (v := (2000 : Int32)) hx hb dX6_measured_26 (by decide) ?_
      refine lv_goto (tgt := 34) hx hb dX6_measured_29 (by decide) ?_
      obtain rfl := Option.some.inj hF
      exact J5 _ _ _ hP hD hS (lv_sub hl [0, 1, 2, 3, 4] rfl)
  clear hF
  have hF := hy1
  clear hy1
  refine lv_if_ge (tgt := 9) hx hb dX6_measured_1 (by decide) (fun c10 => ?_) (fun c10 => ?_)
  · rw [if_pos c10] at hF
    refine lv_iload_n hx hb dX6_measured_9 rfl (lv_at hl 0 rfl) ?_
    obtain rfl := Option.some.inj hF
    exact J1 _ _ _ hP hD hS (lv_sub hl [0, 1, 2, 3] rfl)
  · rw [if_neg c10] at hF
    refine lv_iload_n hx hb dX6_measured_4 rfl (lv_at hl 0 rfl) ?_
    refine lv_ineg hx hb dX6_measured_5 ?_
    obtain ⟨x11, ex11, hF⟩ := ltt_some hF
    refine lv_topi (fun zx11 ezx11 => ?_)
    obtain rfl : x11 = zx11 := ex11.trans ezx11.symm
    refine lv_goto (tgt := 10) hx hb dX6_measured_6 (by decide) ?_
    obtain rfl := Option.some.inj hF
    exact J1 _ _ _ hP hD hS (lv_sub hl [0, 1, 2, 3] rfl)
theorem dX6_normAt_0 : decode cX6_normAt 0 = .ok (.iconst 3, 1) := by decide +kernel
theorem dX6_normAt_1 : decode cX6_normAt 1 = .ok (.iload_n 0, 1) := by decide +kernel
theorem dX6_normAt_2 : decode cX6_normAt 2 = .ok (.bipush 6, 2) := by decide +kernel
theorem dX6_normAt_4 : decode cX6_normAt 4 = .ok (.irem, 1) := by decide +kernel
theorem dX6_normAt_5 : decode cX6_normAt 5 = .ok (.imul, 1) := by decide +kernel
theorem dX6_normAt_6 : decode cX6_normAt 6 = .ok (.iload_n 1, 1) := by decide +kernel
theorem dX6_normAt_7 : decode cX6_normAt 7 = .ok (.iload_n 2, 1) := by decide +kernel
theorem dX6_normAt_8 : decode cX6_normAt 8 = .ok (.ior, 1) := by decide +kernel
theorem dX6_normAt_9 : decode cX6_normAt 9 = .ok (.iconst 2, 1) := by decide +kernel
theorem dX6_normAt_10 : decode cX6_normAt 10 = .ok (.irem, 1) := by decide +kernel
theorem dX6_normAt_11 : decode cX6_normAt 11 = .ok (.ifCond .ne 7, 3) := by decide +kernel
theorem dX6_normAt_14 : decode cX6_normAt 14 = .ok (.iconst 0, 1) := by decide +kernel
theorem dX6_normAt_15 : decode cX6_normAt 15 = .ok (.goto 17, 3) := by decide +kernel
theorem dX6_normAt_18 : decode cX6_normAt 18 = .ok (.iload_n 1, 1) := by decide +kernel
theorem dX6_normAt_19 : decode cX6_normAt 19 = .ok (.iload_n 2, 1) := by decide +kernel
theorem dX6_normAt_20 : decode cX6_normAt 20 = .ok (.iand, 1) := by decide +kernel
theorem dX6_normAt_21 : decode cX6_normAt 21 = .ok (.iconst 2, 1) := by decide +kernel
theorem dX6_normAt_22 : decode cX6_normAt 22 = .ok (.irem, 1) := by decide +kernel
theorem dX6_normAt_23 : decode cX6_normAt 23 = .ok (.iconst 1, 1) := by decide +kernel
theorem dX6_normAt_24 : decode cX6_normAt 24 = .ok (.if_icmp .ne 7, 3) := by decide +kernel
theorem dX6_normAt_27 : decode cX6_normAt 27 = .ok (.iconst 2, 1) := by decide +kernel
theorem dX6_normAt_28 : decode cX6_normAt 28 = .ok (.goto 4, 3) := by decide +kernel
theorem dX6_normAt_31 : decode cX6_normAt 31 = .ok (.iconst 1, 1) := by decide +kernel
theorem dX6_normAt_32 : decode cX6_normAt 32 = .ok (.iadd, 1) := by decide +kernel
theorem dX6_normAt_33 : decode cX6_normAt 33 = .ok (.ireturn, 1) := by decide +kernel
def FX6_normAt (G : GG) (M : DD) (p0 : Int32) (p1 : Int32) (p2 : Int32) : Option (DD × Int32) :=
  ltt (p0 - p0 / ((6 : Int32)) * ((6 : Int32))) fun x1 =>
  ltt ((((3 : Int32)) * x1)) fun x2 =>
  ltt ((p1 ||| p2)) fun x3 =>
  ltt (x3 - x3 / ((2 : Int32)) * ((2 : Int32))) fun x4 =>
  bnd (if x4 = ((0 : Int32)) then (some ((0 : Int32))) else
  (ltt ((p1 &&& p2)) fun x8 =>
  ltt (x8 - x8 / ((2 : Int32)) * ((2 : Int32))) fun x9 =>
  bnd (if x9 = ((1 : Int32)) then (some ((2 : Int32))) else
  (some ((1 : Int32)))) fun (y10 : Int32) =>
  some (y10))) fun (y5 : Int32) =>
  ltt ((x2 + y5)) fun x6 =>
  some (M, x6)
set_option maxHeartbeats 4000000 in
set_option maxRecDepth 100000 in
theorem kX6_normAt (l : Launch) (D : va_G) (ct : CT) (ad : Nat → Nat) (Z : Nat → Nat) (G : GG) (M : DD) (sz : Nat) (p0 : Int32) (p1 : Int32) (p2 : Int32) (y : DD × Int32) (hF : FX6_normAt G M p0 p1 p2 = some y) : Met l yX6_normAt wsX6_normAt ({ frames := 0, cells := 0, slots := 0, locals := 0 }) (va_Pc [.int p0, .int p1, .int p2] (kB D ct ad Z G M sz)) (va_Qi (fun (q : Int32) (_ : Unit) => q = y.2) (fun _ t => kE D ct ad G (wA ad G sz) y.1 t) (wA ad G sz)) 0 0 (wA ad G sz) := by
  refine Met.ofW (cc := cX6_normAt) (maxL := 3) (ret := (some .int)) (by decide) rfl ?_
  intro p e s m args below meth c s₁ B hml hv
  obtain ⟨rfl, hsz, hP, hK, hD0, hZ, hN⟩ := hv
  have hx := B.exec
  have hb := B.bytes
  have hr := B.returns
  have hts := atoms_spec (ws := wsX6_normAt) B.pre
  have hown : s.vm.findClass RX6 = some m.cls := findClass_of_methodNamed B.named
  have hlocks := B.notSynchronized
  subst hsz
  have hD := wD_self (sz := s.heap.size) hD0
  have hA9 : ∀ q, s.heap.size ≤ q → wA ad G s.heap.size q := fun q h => Or.inr h
  generalize hAe : wA ad G s.heap.size = A at hD hA9 hZ ⊢
  have hS : va_S A s.heap s.heap [] := va_S.rf
  have hl := lv_entry ([.int p0, .int p1, .int p2]) (n := 3) (Nat.le_of_ble_eq_true rfl)
  rw [lg_entry_eq]
  generalize (lg_sl ([.int p0, .int p1, .int p2]) ++ List.replicate (3 - (lg_sl ([.int p0, .int p1, .int p2])).length) Slot.unset).toArray = ls at hl ⊢
  have hl : lv_has ls 3 [(0, .int p0), (1, .int p1), (2, .int p2)] := hl
  unfold FX6_normAt at hF
  refine lv_iconst (v := (3 : Int32)) hx hb dX6_normAt_0 (by decide) ?_
  refine lv_iload_n hx hb dX6_normAt_1 rfl (lv_at hl 0 rfl) ?_
  refine lv_bipush (v := (6 : Int32)) hx hb dX6_normAt_2 (by decide) ?_
  refine lv_irem hx hb dX6_normAt_4 (by decide) ?_
  obtain ⟨x1, ex1, hF⟩ := ltt_some hF
  refine lv_topi (fun zx1 ezx1 => ?_)
  obtain rfl : x1 = zx1 := ex1.trans ezx1.symm
  refine lv_imul hx hb dX6_normAt_5 ?_
  obtain ⟨x2, ex2, hF⟩ := ltt_some hF
  refine lv_topi (fun zx2 ezx2 => ?_)
  obtain rfl : x2 = zx2 := ex2.trans ezx2.symm
  refine lv_iload_n hx hb dX6_normAt_6 rfl (lv_at hl 1 rfl) ?_
  refine lv_iload_n hx hb dX6_normAt_7 rfl (lv_at hl 2 rfl) ?_
  refine lv_ior hx hb dX6_normAt_8 ?_
  obtain ⟨x3, ex3, hF⟩ := ltt_some hF
  refine lv_topi (fun zx3 ezx3 => ?_)
  obtain rfl : x3 = zx3 := ex3.trans ezx3.symm
  refine lv_iconst (v := (2 : Int32)) hx hb dX6_normAt_9 (by decide) ?_
  refine lv_irem hx hb dX6_normAt_10 (by decide) ?_
  obtain ⟨x4, ex4, hF⟩ := ltt_some hF
  refine lv_topi (fun zx4 ezx4 => ?_)
  obtain rfl : x4 = zx4 := ex4.trans ezx4.symm
  obtain ⟨y5, hy5, hF⟩ := bnd_some hF
  have J5 : ∀ (H : Heap) (locs : List Loc) (ls : Array Slot), va_P D classes (wld ct ad G M) H → va_D A (wld ct ad G M) → va_S A s.heap H locs → lv_has ls 3 [(0, .int p0), (1, .int p1), (2, .int p2)] → W p l e (headSpec wsX6_normAt ({ frames := 0, cells := 0, slots := 0, locals := 0 })).room s m ([.int p0, .int p1, .int p2] : List Value).toArray below meth c H locs 0 0 (MQ below (va_Qi (fun (q : Int32) (_ : Unit) => q = y.2) (fun _ t => kE D ct ad G A y.1 t) A) ([.int p0, .int p1, .int p2] : List Value).toArray s 0 0 A) (F0 m 32 ls [.int y5, .int x2]) := by
    intro H locs ls hP hD hS hl
    refine lv_iadd hx hb dX6_normAt_32 ?_
    obtain ⟨x6, ex6, hF⟩ := ltt_some hF
    refine lv_topi (fun zx6 ezx6 => ?_)
    obtain rfl : x6 = zx6 := ex6.trans ezx6.symm
    obtain rfl := Option.some.inj hF
    exact W.iret (v := x6) hx hb hr (fun t ht hW => ⟨⟨_, (), rfl, rfl, ⟨by rw [ht]; exact hP, va_K.moved hW.alike hK, hD⟩⟩, hS.F ht⟩) hS.2.2 dX6_normAt_33
  clear hF
  have hF := hy5
  clear hy5
  refine lv_if_ne (tgt := 18) hx hb dX6_normAt_11 (by decide) (fun c7 => ?_) (fun c7 => ?_)
  · rw [if_neg c7] at hF
    refine lv_iload_n hx hb dX6_normAt_18 rfl (lv_at hl 1 rfl) ?_
    refine lv_iload_n hx hb dX6_normAt_19 rfl (lv_at hl 2 rfl) ?_
    refine lv_iand hx hb dX6_normAt_20 ?_
    obtain ⟨x8, ex8, hF⟩ := ltt_some hF
    refine lv_topi (fun zx8 ezx8 => ?_)
    obtain rfl : x8 = zx8 := ex8.trans ezx8.symm
    refine lv_iconst (v := (2 : Int32)) hx hb dX6_normAt_21 (by decide) ?_
    refine lv_irem hx hb dX6_normAt_22 (by decide) ?_
    obtain ⟨x9, ex9, hF⟩ := ltt_some hF
    refine lv_topi (fun zx9 ezx9 => ?_)
    obtain rfl : x9 = zx9 := ex9.trans ezx9.symm
    refine lv_iconst (v := (1 : Int32)) hx hb dX6_normAt_23 (by decide) ?_
    obtain ⟨y10, hy10, hF⟩ := bnd_some hF
    have J10 : ∀ (H : Heap) (locs : List Loc) (ls : Array Slot), va_P D classes (wld ct ad G M) H → va_D A (wld ct ad G M) → va_S A s.heap H locs → lv_has ls 3 [(0, .int p0), (1, .int p1), (2, .int p2)] → W p l e (headSpec wsX6_normAt ({ frames := 0, cells := 0, slots := 0, locals := 0 })).room s m ([.int p0, .int p1, .int p2] : List Value).toArray below meth c H locs 0 0 (MQ below (va_Qi (fun (q : Int32) (_ : Unit) => q = y.2) (fun _ t => kE D ct ad G A y.1 t) A) ([.int p0, .int p1, .int p2] : List Value).toArray s 0 0 A) (F0 m 32 ls [.int y10, .int x2]) := by
      intro H locs ls hP hD hS hl
      obtain rfl := Option.some.inj hF
      exact J5 _ _ _ hP hD hS (lv_sub hl [0, 1, 2] rfl)
    clear hF
    have hF := hy10
    clear hy10
    refine lv_icmp_ne (tgt := 31) hx hb dX6_normAt_24 (by decide) (fun c11 => ?_) (fun c11 => ?_)
    · rw [if_neg c11] at hF
      refine lv_iconst (v := (1 : Int32)) hx hb dX6_normAt_31 (by decide) ?_
      obtain rfl := Option.some.inj hF
      exact J10 _ _ _ hP hD hS (lv_sub hl [0, 1, 2] rfl)
    · rw [if_pos c11] at hF
      refine lv_iconst (v := (2 : Int32)) hx hb dX6_normAt_27 (by decide) ?_
      refine lv_goto (tgt := 32) hx hb dX6_normAt_28 (by decide) ?_
      obtain rfl := Option.some.inj hF
      exact J10 _ _ _ hP hD hS (lv_sub hl [0, 1, 2] rfl)
  · rw [if_pos c7] at hF
    refine lv_iconst (v := (0 : Int32)) hx hb dX6_normAt_14 (by decide) ?_
    refine lv_goto (tgt := 32) hx hb dX6_normAt_15 (by decide) ?_
    obtain rfl := Option.some.inj hF
    exact J5 _ _ _ hP hD hS (lv_sub hl [0, 1, 2] rfl)
theorem dX6_predictColours_0 : decode cX6_predictColours 0 = .ok (.bipush 8, 2) := by decide +kernel
theorem dX6_predictColours_2 : decode cX6_predictColours 2 = .ok (.aload_n 1, 1) := by decide +kernel
theorem dX6_predictColours_3 : decode cX6_predictColours 3 = .ok (.getfield 83, 3) := by decide +kernel
theorem dX6_predictColours_6 : decode cX6_predictColours 6 = .ok (.imul, 1) := by decide +kernel
theorem dX6_predictColours_7 : decode cX6_predictColours 7 = .ok (.istore 7, 2) := by decide +kernel
theorem dX6_predictColours_9 : decode cX6_predictColours 9 = .ok (.bipush 8, 2) := by decide +kernel
theorem dX6_predictColours_11 : decode cX6_predictColours 11 = .ok (.aload_n 1, 1) := by decide +kernel
theorem dX6_predictColours_12 : decode cX6_predictColours 12 = .ok (.getfield 125, 3) := by decide +kernel
theorem dX6_predictColours_15 : decode cX6_predictColours 15 = .ok (.imul, 1) := by decide +kernel
theorem dX6_predictColours_16 : decode cX6_predictColours 16 = .ok (.istore 8, 2) := by decide +kernel
theorem dX6_predictColours_18 : decode cX6_predictColours 18 = .ok (.iload_n 2, 1) := by decide +kernel
theorem dX6_predictColours_19 : decode cX6_predictColours 19 = .ok (.bipush 7, 2) := by decide +kernel
theorem dX6_predictColours_21 : decode cX6_predictColours 21 = .ok (.iand, 1) := by decide +kernel
theorem dX6_predictColours_22 : decode cX6_predictColours 22 = .ok (.istore 9, 2) := by decide +kernel
theorem dX6_predictColours_24 : decode cX6_predictColours 24 = .ok (.iload_n 3, 1) := by decide +kernel
theorem dX6_predictColours_25 : decode cX6_predictColours 25 = .ok (.bipush 7, 2) := by decide +kernel
theorem dX6_predictColours_27 : decode cX6_predictColours 27 = .ok (.iand, 1) := by decide +kernel
theorem dX6_predictColours_28 : decode cX6_predictColours 28 = .ok (.istore 10, 2) := by decide +kernel
theorem dX6_predictColours_30 : decode cX6_predictColours 30 = .ok (.iconst 0, 1) := by decide +kernel
theorem dX6_predictColours_31 : decode cX6_predictColours 31 = .ok (.istore 11, 2) := by decide +kernel
theorem dX6_predictColours_33 : decode cX6_predictColours 33 = .ok (.iload 11, 2) := by decide +kernel
theorem dX6_predictColours_35 : decode cX6_predictColours 35 = .ok (.iload 4, 2) := by decide +kernel
theorem dX6_predictColours_37 : decode cX6_predictColours 37 = .ok (.iload 4, 2) := by decide +kernel
theorem dX6_predictColours_39 : decode cX6_predictColours 39 = .ok (.imul, 1) := by decide +kernel
theorem dX6_predictColours_40 : decode cX6_predictColours 40 = .ok (.if_icmp .ge 288, 3) := by decide +kernel
theorem dX6_predictColours_43 : decode cX6_predictColours 43 = .ok (.iload_n 2, 1) := by decide +kernel
theorem dX6_predictColours_44 : decode cX6_predictColours 44 = .ok (.iconst 3, 1) := by decide +kernel
theorem dX6_predictColours_45 : decode cX6_predictColours 45 = .ok (.ishr, 1) := by decide +kernel
theorem dX6_predictColours_46 : decode cX6_predictColours 46 = .ok (.iload 11, 2) := by decide +kernel
theorem dX6_predictColours_48 : decode cX6_predictColours 48 = .ok (.iload 4, 2) := by decide +kernel
theorem dX6_predictColours_50 : decode cX6_predictColours 50 = .ok (.irem, 1) := by decide +kernel
theorem dX6_predictColours_51 : decode cX6_predictColours 51 = .ok (.iadd, 1) := by decide +kernel
theorem dX6_predictColours_52 : decode cX6_predictColours 52 = .ok (.istore 12, 2) := by decide +kernel
theorem dX6_predictColours_54 : decode cX6_predictColours 54 = .ok (.iload_n 3, 1) := by decide +kernel
theorem dX6_predictColours_55 : decode cX6_predictColours 55 = .ok (.iconst 3, 1) := by decide +kernel
theorem dX6_predictColours_56 : decode cX6_predictColours 56 = .ok (.ishr, 1) := by decide +kernel
theorem dX6_predictColours_57 : decode cX6_predictColours 57 = .ok (.iload 11, 2) := by decide +kernel
theorem dX6_predictColours_59 : decode cX6_predictColours 59 = .ok (.iload 4, 2) := by decide +kernel
theorem dX6_predictColours_61 : decode cX6_predictColours 61 = .ok (.idiv, 1) := by decide +kernel
theorem dX6_predictColours_62 : decode cX6_predictColours 62 = .ok (.iadd, 1) := by decide +kernel
theorem dX6_predictColours_63 : decode cX6_predictColours 63 = .ok (.istore 13, 2) := by decide +kernel
theorem dX6_predictColours_65 : decode cX6_predictColours 65 = .ok (.iload 12, 2) := by decide +kernel
theorem dX6_predictColours_67 : decode cX6_predictColours 67 = .ok (.ifCond .ge 7, 3) := by decide +kernel
theorem dX6_predictColours_70 : decode cX6_predictColours 70 = .ok (.iconst 0, 1) := by decide +kernel
theorem dX6_predictColours_71 : decode cX6_predictColours 71 = .ok (.goto 19, 3) := by decide +kernel
theorem dX6_predictColours_74 : decode cX6_predictColours 74 = .ok (.iload 12, 2) := by decide +kernel
theorem dX6_predictColours_76 : decode cX6_predictColours 76 = .ok (.iload 7, 2) := by decide +kernel
theorem dX6_predictColours_78 : decode cX6_predictColours 78 = .ok (.if_icmp .lt 10, 3) := by decide +kernel
theorem dX6_predictColours_81 : decode cX6_predictColours 81 = .ok (.iload 7, 2) := by decide +kernel
theorem dX6_predictColours_83 : decode cX6_predictColours 83 = .ok (.iconst 1, 1) := by decide +kernel
theorem dX6_predictColours_84 : decode cX6_predictColours 84 = .ok (.isub, 1) := by decide +kernel
theorem dX6_predictColours_85 : decode cX6_predictColours 85 = .ok (.goto 5, 3) := by decide +kernel
theorem dX6_predictColours_88 : decode cX6_predictColours 88 = .ok (.iload 12, 2) := by decide +kernel
theorem dX6_predictColours_90 : decode cX6_predictColours 90 = .ok (.istore 14, 2) := by decide +kernel
theorem dX6_predictColours_92 : decode cX6_predictColours 92 = .ok (.iload 12, 2) := by decide +kernel
theorem dX6_predictColours_94 : decode cX6_predictColours 94 = .ok (.iconst (-1), 1) := by decide +kernel
theorem dX6_predictColours_95 : decode cX6_predictColours 95 = .ok (.if_icmp .ge 7, 3) := by decide +kernel
theorem dX6_predictColours_98 : decode cX6_predictColours 98 = .ok (.iconst 0, 1) := by decide +kernel
theorem dX6_predictColours_99 : decode cX6_predictColours 99 = .ok (.goto 23, 3) := by decide +kernel
theorem dX6_predictColours_102 : decode cX6_predictColours 102 = .ok (.iload 12, 2) := by decide +kernel
theorem dX6_predictColours_104 : decode cX6_predictColours 104 = .ok (.iload 7, 2) := by decide +kernel
theorem dX6_predictColours_106 : decode cX6_predictColours 106 = .ok (.iconst 1, 1) := by decide +kernel
theorem dX6_predictColours_107 : decode cX6_predictColours 107 = .ok (.isub, 1) := by decide +kernel
theorem dX6_predictColours_108 : decode cX6_predictColours 108 = .ok (.if_icmp .lt 10, 3) := by decide +kernel
theorem dX6_predictColours_111 : decode cX6_predictColours 111 = .ok (.iload 7, 2) := by decide +kernel
theorem dX6_predictColours_113 : decode cX6_predictColours 113 = .ok (.iconst 1, 1) := by decide +kernel
theorem dX6_predictColours_114 : decode cX6_predictColours 114 = .ok (.isub, 1) := by decide +kernel
theorem dX6_predictColours_115 : decode cX6_predictColours 115 = .ok (.goto 7, 3) := by decide +kernel
theorem dX6_predictColours_118 : decode cX6_predictColours 118 = .ok (.iload 12, 2) := by decide +kernel
theorem dX6_predictColours_120 : decode cX6_predictColours 120 = .ok (.iconst 1, 1) := by decide +kernel
theorem dX6_predictColours_121 : decode cX6_predictColours 121 = .ok (.iadd, 1) := by decide +kernel
theorem dX6_predictColours_122 : decode cX6_predictColours 122 = .ok (.istore 15, 2) := by decide +kernel
theorem dX6_predictColours_124 : decode cX6_predictColours 124 = .ok (.iload 13, 2) := by decide +kernel
theorem dX6_predictColours_126 : decode cX6_predictColours 126 = .ok (.ifCond .ge 7, 3) := by decide +kernel
theorem dX6_predictColours_129 : decode cX6_predictColours 129 = .ok (.iconst 0, 1) := by decide +kernel
theorem dX6_predictColours_130 : decode cX6_predictColours 130 = .ok (.goto 19, 3) := by decide +kernel
theorem dX6_predictColours_133 : decode cX6_predictColours 133 = .ok (.iload 13, 2) := by decide +kernel
theorem dX6_predictColours_135 : decode cX6_predictColours 135 = .ok (.iload 8, 2) := by decide +kernel
theorem dX6_predictColours_137 : decode cX6_predictColours 137 = .ok (.if_icmp .lt 10, 3) := by decide +kernel
theorem dX6_predictColours_140 : decode cX6_predictColours 140 = .ok (.iload 8, 2) := by decide +kernel
theorem dX6_predictColours_142 : decode cX6_predictColours 142 = .ok (.iconst 1, 1) := by decide +kernel
theorem dX6_predictColours_143 : decode cX6_predictColours 143 = .ok (.isub, 1) := by decide +kernel
theorem dX6_predictColours_144 : decode cX6_predictColours 144 = .ok (.goto 5, 3) := by decide +kernel
theorem dX6_predictColours_147 : decode cX6_predictColours 147 = .ok (.iload 13, 2) := by decide +kernel
theorem dX6_predictColours_149 : decode cX6_predictColours 149 = .ok (.iload 7, 2) := by decide +kernel
theorem dX6_predictColours_151 : decode cX6_predictColours 151 = .ok (.imul, 1) := by decide +kernel
theorem dX6_predictColours_152 : decode cX6_predictColours 152 = .ok (.istore 16, 2) := by decide +kernel
theorem dX6_predictColours_154 : decode cX6_predictColours 154 = .ok (.iload 13, 2) := by decide +kernel
theorem dX6_predictColours_156 : decode cX6_predictColours 156 = .ok (.iconst (-1), 1) := by decide +kernel
theorem dX6_predictColours_157 : decode cX6_predictColours 157 = .ok (.if_icmp .ge 7, 3) := by decide +kernel
theorem dX6_predictColours_160 : decode cX6_predictColours 160 = .ok (.iconst 0, 1) := by decide +kernel
theorem dX6_predictColours_161 : decode cX6_predictColours 161 = .ok (.goto 23, 3) := by decide +kernel
theorem dX6_predictColours_164 : decode cX6_predictColours 164 = .ok (.iload 13, 2) := by decide +kernel
theorem dX6_predictColours_166 : decode cX6_predictColours 166 = .ok (.iload 8, 2) := by decide +kernel
theorem dX6_predictColours_168 : decode cX6_predictColours 168 = .ok (.iconst 1, 1) := by decide +kernel
theorem dX6_predictColours_169 : decode cX6_predictColours 169 = .ok (.isub, 1) := by decide +kernel
theorem dX6_predictColours_170 : decode cX6_predictColours 170 = .ok (.if_icmp .lt 10, 3) := by decide +kernel
theorem dX6_predictColours_173 : decode cX6_predictColours 173 = .ok (.iload 8, 2) := by decide +kernel
theorem dX6_predictColours_175 : decode cX6_predictColours 175 = .ok (.iconst 1, 1) := by decide +kernel
theorem dX6_predictColours_176 : decode cX6_predictColours 176 = .ok (.isub, 1) := by decide +kernel
theorem dX6_predictColours_177 : decode cX6_predictColours 177 = .ok (.goto 7, 3) := by decide +kernel
theorem dX6_predictColours_180 : decode cX6_predictColours 180 = .ok (.iload 13, 2) := by decide +kernel
theorem dX6_predictColours_182 : decode cX6_predictColours 182 = .ok (.iconst 1, 1) := by decide +kernel
theorem dX6_predictColours_183 : decode cX6_predictColours 183 = .ok (.iadd, 1) := by decide +kernel
theorem dX6_predictColours_184 : decode cX6_predictColours 184 = .ok (.iload 7, 2) := by decide +kernel
theorem dX6_predictColours_186 : decode cX6_predictColours 186 = .ok (.imul, 1) := by decide +kernel
theorem dX6_predictColours_187 : decode cX6_predictColours 187 = .ok (.istore 17, 2) := by decide +kernel
theorem dX6_predictColours_189 : decode cX6_predictColours 189 = .ok (.iconst 1, 1) := by decide +kernel
theorem dX6_predictColours_190 : decode cX6_predictColours 190 = .ok (.istore 18, 2) := by decide +kernel
theorem dX6_predictColours_192 : decode cX6_predictColours 192 = .ok (.iload 18, 2) := by decide +kernel
theorem dX6_predictColours_194 : decode cX6_predictColours 194 = .ok (.iconst 3, 1) := by decide +kernel
theorem dX6_predictColours_195 : decode cX6_predictColours 195 = .ok (.if_icmp .ge 127, 3) := by decide +kernel
theorem dX6_predictColours_198 : decode cX6_predictColours 198 = .ok (.aload_n 1, 1) := by decide +kernel
theorem dX6_predictColours_199 : decode cX6_predictColours 199 = .ok (.getfield 121, 3) := by decide +kernel
theorem dX6_predictColours_202 : decode cX6_predictColours 202 = .ok (.iload 18, 2) := by decide +kernel
theorem dX6_predictColours_204 : decode cX6_predictColours 204 = .ok (.aaload, 1) := by decide +kernel
theorem dX6_predictColours_205 : decode cX6_predictColours 205 = .ok (.astore 19, 2) := by decide +kernel
theorem dX6_predictColours_207 : decode cX6_predictColours 207 = .ok (.bipush 8, 2) := by decide +kernel
theorem dX6_predictColours_209 : decode cX6_predictColours 209 = .ok (.iload 9, 2) := by decide +kernel
theorem dX6_predictColours_211 : decode cX6_predictColours 211 = .ok (.isub, 1) := by decide +kernel
theorem dX6_predictColours_212 : decode cX6_predictColours 212 = .ok (.bipush 8, 2) := by decide +kernel
theorem dX6_predictColours_214 : decode cX6_predictColours 214 = .ok (.iload 10, 2) := by decide +kernel
theorem dX6_predictColours_216 : decode cX6_predictColours 216 = .ok (.isub, 1) := by decide +kernel
theorem dX6_predictColours_217 : decode cX6_predictColours 217 = .ok (.imul, 1) := by decide +kernel
theorem dX6_predictColours_218 : decode cX6_predictColours 218 = .ok (.aload 19, 2) := by decide +kernel
theorem dX6_predictColours_220 : decode cX6_predictColours 220 = .ok (.iload 16, 2) := by decide +kernel
theorem dX6_predictColours_222 : decode cX6_predictColours 222 = .ok (.iload 14, 2) := by decide +kernel
theorem dX6_predictColours_224 : decode cX6_predictColours 224 = .ok (.iadd, 1) := by decide +kernel
theorem dX6_predictColours_225 : decode cX6_predictColours 225 = .ok (.iaload, 1) := by decide +kernel
theorem dX6_predictColours_226 : decode cX6_predictColours 226 = .ok (.imul, 1) := by decide +kernel
theorem dX6_predictColours_227 : decode cX6_predictColours 227 = .ok (.iload 9, 2) := by decide +kernel
theorem dX6_predictColours_229 : decode cX6_predictColours 229 = .ok (.bipush 8, 2) := by decide +kernel
theorem dX6_predictColours_231 : decode cX6_predictColours 231 = .ok (.iload 10, 2) := by decide +kernel
theorem dX6_predictColours_233 : decode cX6_predictColours 233 = .ok (.isub, 1) := by decide +kernel
theorem dX6_predictColours_234 : decode cX6_predictColours 234 = .ok (.imul, 1) := by decide +kernel
theorem dX6_predictColours_235 : decode cX6_predictColours 235 = .ok (.aload 19, 2) := by decide +kernel
theorem dX6_predictColours_237 : decode cX6_predictColours 237 = .ok (.iload 16, 2) := by decide +kernel
theorem dX6_predictColours_239 : decode cX6_predictColours 239 = .ok (.iload 15, 2) := by decide +kernel
theorem dX6_predictColours_241 : decode cX6_predictColours 241 = .ok (.iadd, 1) := by decide +kernel
theorem dX6_predictColours_242 : decode cX6_predictColours 242 = .ok (.iaload, 1) := by decide +kernel
theorem dX6_predictColours_243 : decode cX6_predictColours 243 = .ok (.imul, 1) := by decide +kernel
theorem dX6_predictColours_244 : decode cX6_predictColours 244 = .ok (.iadd, 1) := by decide +kernel
theorem dX6_predictColours_245 : decode cX6_predictColours 245 = .ok (.bipush 8, 2) := by decide +kernel
theorem dX6_predictColours_247 : decode cX6_predictColours 247 = .ok (.iload 9, 2) := by decide +kernel
theorem dX6_predictColours_249 : decode cX6_predictColours 249 = .ok (.isub, 1) := by decide +kernel
theorem dX6_predictColours_250 : decode cX6_predictColours 250 = .ok (.iload 10, 2) := by decide +kernel
theorem dX6_predictColours_252 : decode cX6_predictColours 252 = .ok (.imul, 1) := by decide +kernel
theorem dX6_predictColours_253 : decode cX6_predictColours 253 = .ok (.aload 19, 2) := by decide +kernel
theorem dX6_predictColours_255 : decode cX6_predictColours 255 = .ok (.iload 17, 2) := by decide +kernel
theorem dX6_predictColours_257 : decode cX6_predictColours 257 = .ok (.iload 14, 2) := by decide +kernel
theorem dX6_predictColours_259 : decode cX6_predictColours 259 = .ok (.iadd, 1) := by decide +kernel
theorem dX6_predictColours_260 : decode cX6_predictColours 260 = .ok (.iaload, 1) := by decide +kernel
theorem dX6_predictColours_261 : decode cX6_predictColours 261 = .ok (.imul, 1) := by decide +kernel
theorem dX6_predictColours_262 : decode cX6_predictColours 262 = .ok (.iadd, 1) := by decide +kernel
theorem dX6_predictColours_263 : decode cX6_predictColours 263 = .ok (.iload 9, 2) := by decide +kernel
theorem dX6_predictColours_265 : decode cX6_predictColours 265 = .ok (.iload 10, 2) := by decide +kernel
theorem dX6_predictColours_267 : decode cX6_predictColours 267 = .ok (.imul, 1) := by decide +kernel
theorem dX6_predictColours_268 : decode cX6_predictColours 268 = .ok (.aload 19, 2) := by decide +kernel
theorem dX6_predictColours_270 : decode cX6_predictColours 270 = .ok (.iload 17, 2) := by decide +kernel
theorem dX6_predictColours_272 : decode cX6_predictColours 272 = .ok (.iload 15, 2) := by decide +kernel
theorem dX6_predictColours_274 : decode cX6_predictColours 274 = .ok (.iadd, 1) := by decide +kernel
theorem dX6_predictColours_275 : decode cX6_predictColours 275 = .ok (.iaload, 1) := by decide +kernel
theorem dX6_predictColours_276 : decode cX6_predictColours 276 = .ok (.imul, 1) := by decide +kernel
theorem dX6_predictColours_277 : decode cX6_predictColours 277 = .ok (.iadd, 1) := by decide +kernel
theorem dX6_predictColours_278 : decode cX6_predictColours 278 = .ok (.istore 20, 2) := by decide +kernel
theorem dX6_predictColours_280 : decode cX6_predictColours 280 = .ok (.aload 5, 2) := by decide +kernel
theorem dX6_predictColours_282 : decode cX6_predictColours 282 = .ok (.iload 6, 2) := by decide +kernel
theorem dX6_predictColours_284 : decode cX6_predictColours 284 = .ok (.bipush 64, 2) := by decide +kernel
theorem dX6_predictColours_286 : decode cX6_predictColours 286 = .ok (.iload 18, 2) := by decide +kernel
theorem dX6_predictColours_288 : decode cX6_predictColours 288 = .ok (.iconst 1, 1) := by decide +kernel
theorem dX6_predictColours_289 : decode cX6_predictColours 289 = .ok (.isub, 1) := by decide +kernel
theorem dX6_predictColours_290 : decode cX6_predictColours 290 = .ok (.imul, 1) := by decide +kernel
theorem dX6_predictColours_291 : decode cX6_predictColours 291 = .ok (.iadd, 1) := by decide +kernel
theorem dX6_predictColours_292 : decode cX6_predictColours 292 = .ok (.iload 11, 2) := by decide +kernel
theorem dX6_predictColours_294 : decode cX6_predictColours 294 = .ok (.iload 4, 2) := by decide +kernel
theorem dX6_predictColours_296 : decode cX6_predictColours 296 = .ok (.idiv, 1) := by decide +kernel
theorem dX6_predictColours_297 : decode cX6_predictColours 297 = .ok (.bipush 8, 2) := by decide +kernel
theorem dX6_predictColours_299 : decode cX6_predictColours 299 = .ok (.imul, 1) := by decide +kernel
theorem dX6_predictColours_300 : decode cX6_predictColours 300 = .ok (.iadd, 1) := by decide +kernel
theorem dX6_predictColours_301 : decode cX6_predictColours 301 = .ok (.iload 11, 2) := by decide +kernel
theorem dX6_predictColours_303 : decode cX6_predictColours 303 = .ok (.iload 4, 2) := by decide +kernel
theorem dX6_predictColours_305 : decode cX6_predictColours 305 = .ok (.irem, 1) := by decide +kernel
theorem dX6_predictColours_306 : decode cX6_predictColours 306 = .ok (.iadd, 1) := by decide +kernel
theorem dX6_predictColours_307 : decode cX6_predictColours 307 = .ok (.iload 20, 2) := by decide +kernel
theorem dX6_predictColours_309 : decode cX6_predictColours 309 = .ok (.bipush 32, 2) := by decide +kernel
theorem dX6_predictColours_311 : decode cX6_predictColours 311 = .ok (.iadd, 1) := by decide +kernel
theorem dX6_predictColours_312 : decode cX6_predictColours 312 = .ok (.bipush 6, 2) := by decide +kernel
theorem dX6_predictColours_314 : decode cX6_predictColours 314 = .ok (.ishr, 1) := by decide +kernel
theorem dX6_predictColours_315 : decode cX6_predictColours 315 = .ok (.iastore, 1) := by decide +kernel
theorem dX6_predictColours_316 : decode cX6_predictColours 316 = .ok (.iinc 18 1, 3) := by decide +kernel
theorem dX6_predictColours_319 : decode cX6_predictColours 319 = .ok (.goto (-127), 3) := by decide +kernel
theorem dX6_predictColours_322 : decode cX6_predictColours 322 = .ok (.iinc 11 1, 3) := by decide +kernel
theorem dX6_predictColours_325 : decode cX6_predictColours 325 = .ok (.goto (-292), 3) := by decide +kernel
theorem dX6_predictColours_328 : decode cX6_predictColours 328 = .ok (.return_, 1) := by decide +kernel
def FX6_predictColours (G : GG) (M : DD) (a : Nat) (p0 : Option Nat) (p1 : Int32) (p2 : Int32) (p3 : Int32) (p4 : Option Nat) (p5 : Int32) : Option (DD) :=
  dr G 4 p0 fun b1 =>
  ltt (M.1 b1 1) fun x2 =>
  ltt ((((8 : Int32)) * x2)) fun x3 =>
  ltt (M.1 b1 2) fun x4 =>
  ltt ((((8 : Int32)) * x4)) fun x5 =>
  ltt ((p1 &&& ((7 : Int32)))) fun x6 =>
  ltt ((p2 &&& ((7 : Int32)))) fun x7 =>
  bnd (itr (fun (s9 : Int32 × DD) => ((ltt ((p3 * p3)) fun x12 =>
  if x12 ≤ s9.1 then (some (.inr (s9.1, s9.2))) else
  (ltt ((p1 >>> (((3 : Int32)) &&& 31))) fun x14 =>
  chk (¬ p3 = 0) <|
  ltt (s9.1 - s9.1 / p3 * p3) fun x15 =>
  ltt ((x14 + x15)) fun x16 =>
  ltt ((p2 >>> (((3 : Int32)) &&& 31))) fun x17 =>
  chk (¬ p3 = 0) <|
  ltt (s9.1 / p3) fun x18 =>
  ltt ((x17 + x18)) fun x19 =>
  bnd (if ((0 : Int32)) ≤ x16 then (bnd (if x16 < x3 then (some (x16)) else
  (ltt ((x3 - ((1 : Int32)))) fun x89 =>
  some (x89))) fun (y87 : Int32) =>
  some (y87)) else
  (some ((0 : Int32)))) fun (y20 : Int32) =>
  bnd (if ((-1 : Int32)) ≤ x16 then (ltt ((x3 - ((1 : Int32)))) fun x81 =>
  bnd (if x16 < x81 then (ltt ((x16 + ((1 : Int32)))) fun x84 =>
  some (x84)) else
  (ltt ((x3 - ((1 : Int32)))) fun x85 =>
  some (x85))) fun (y82 : Int32) =>
  some (y82)) else
  (some ((0 : Int32)))) fun (y21 : Int32) =>
  bnd (if ((0 : Int32)) ≤ x19 then (bnd (if x19 < x5 then (some (x19)) else
  (ltt ((x5 - ((1 : Int32)))) fun x79 =>
  some (x79))) fun (y77 : Int32) =>
  some (y77)) else
  (some ((0 : Int32)))) fun (y22 : Int32) =>
  ltt ((y22 * x3)) fun x23 =>
  bnd (if ((-1 : Int32)) ≤ x19 then (ltt ((x5 - ((1 : Int32)))) fun x71 =>
  bnd (if x19 < x71 then (ltt ((x19 + ((1 : Int32)))) fun x74 =>
  some (x74)) else
  (ltt ((x5 - ((1 : Int32)))) fun x75 =>
  some (x75))) fun (y72 : Int32) =>
  some (y72)) else
  (some ((0 : Int32)))) fun (y24 : Int32) =>
  ltt ((y24 * x3)) fun x25 =>
  bnd (itr (fun (s27 : Int32 × DD) => ((if ((3 : Int32)) ≤ s27.1 then (some (.inr (s27.1, s27.2))) else
  (dr G 15 ((s27.2.2 b1 4)) fun b32 =>
  chk (¬ (s27.1 < 0 ∨ G.2.2 b32 ≤ s27.1.toNatClampNeg)) <|
  ltt ((((8 : Int32)) - x6)) fun x33 =>
  ltt ((((8 : Int32)) - x7)) fun x34 =>
  ltt ((x33 * x34)) fun x35 =>
  ltt ((x23 + y20)) fun x36 =>
  dr G 13 ((s27.2.2 b32 s27.1.toNatClampNeg)) fun b37 =>
  chk (¬ (x36 < 0 ∨ G.2.2 b37 ≤ x36.toNatClampNeg)) <|
  ltt (s27.2.1 b37 x36.toNatClampNeg) fun x38 =>
  ltt ((x35 * x38)) fun x39 =>
  ltt ((((8 : Int32)) - x7)) fun x40 =>
  ltt ((x6 * x40)) fun x41 =>
  ltt ((x23 + y21)) fun x42 =>
  chk (¬ (x42 < 0 ∨ G.2.2 b37 ≤ x42.toNatClampNeg)) <|
  ltt (s27.2.1 b37 x42.toNatClampNeg) fun x43 =>
  ltt ((x41 * x43)) fun x44 =>
  ltt ((x39 + x44)) fun x45 =>
  ltt ((((8 : Int32)) - x6)) fun x46 =>
  ltt ((x46 * x7)) fun x47 =>
  ltt ((x25 + y20)) fun x48 =>
  chk (¬ (x48 < 0 ∨ G.2.2 b37 ≤ x48.toNatClampNeg)) <|
  ltt (s27.2.1 b37 x48.toNatClampNeg) fun x49 =>
  ltt ((x47 * x49)) fun x50 =>
  ltt ((x45 + x50)) fun x51 =>
  ltt ((x6 * x7)) fun x52 =>
  ltt ((x25 + y21)) fun x53 =>
  chk (¬ (x53 < 0 ∨ G.2.2 b37 ≤ x53.toNatClampNeg)) <|
  ltt (s27.2.1 b37 x53.toNatClampNeg) fun x54 =>
  ltt ((x52 * x54)) fun x55 =>
  ltt ((x51 + x55)) fun x56 =>
  ltt ((s27.1 - ((1 : Int32)))) fun x57 =>
  ltt ((((64 : Int32)) * x57)) fun x58 =>
  ltt ((p5 + x58)) fun x59 =>
  chk (¬ p3 = 0) <|
  ltt (s9.1 / p3) fun x60 =>
  ltt ((x60 * ((8 : Int32)))) fun x61 =>
  ltt ((x59 + x61)) fun x62 =>
  chk (¬ p3 = 0) <|
  ltt (s9.1 - s9.1 / p3 * p3) fun x63 =>
  ltt ((x62 + x63)) fun x64 =>
  ltt ((x56 + ((32 : Int32)))) fun x65 =>
  ltt ((x65 >>> (((6 : Int32)) &&& 31))) fun x66 =>
  dr G 13 p4 fun b67 =>
  chk (¬ (x64 < 0 ∨ G.2.2 b67 ≤ x64.toNatClampNeg)) <|
  ltt (uI s27.2 b67 x64.toNatClampNeg x66) fun M68 =>
  ltt (s27.1 + (1 : Int32)) fun x69 =>
  some (.inl (x69, M68)))) : Option ((Int32 × DD) ⊕ (Int32 × DD)))) 1000000 ((1 : Int32), s9.2)) fun (y26 : Int32 × DD) =>
  ltt (s9.1 + (1 : Int32)) fun x29 =>
  some (.inl (x29, y26.2)))) : Option ((Int32 × DD) ⊕ (Int32 × DD)))) 1000000 ((0 : Int32), M)) fun (y8 : Int32 × DD) =>
  some y8.2
set_option maxHeartbeats 4000000 in
set_option maxRecDepth 100000 in
theorem kX6_predictColours (l : Launch) (D : va_G) (ct : CT) (ad : Nat → Nat) (Z : Nat → Nat) (G : GG) (M : DD) (sz : Nat) (a : Nat) (p0 : Option Nat) (p1 : Int32) (p2 : Int32) (p3 : Int32) (p4 : Option Nat) (p5 : Int32) (y : DD) (hc : a < G.1) (hk : G.2.1 a = 6) (hF : FX6_predictColours G M a p0 p1 p2 p3 p4 p5 = some y) : Met l yX6_predictColours wsX6_predictColours ({ frames := 0, cells := 0, slots := 0, locals := 0 }) (va_Pc [.ref (ad a), va_re ad p0, .int p1, .int p2, .int p3, va_re ad p4, .int p5] (kB D ct ad Z G M sz)) (va_Qv (fun (_ : Unit) => True) (fun _ t => kE D ct ad G (wA ad G sz) y t) (wA ad G sz)) 0 0 (wA ad G sz) := by
  refine Met.ofW (cc := cX6_predictColours) (maxL := 21) (ret := none) (by decide) rfl ?_
  intro p e s m args below meth c s₁ B hml hv
  obtain ⟨rfl, hsz, hP, hK, hD0, hZ, hN⟩ := hv
  have hx := B.exec
  have hb := B.bytes
  have hr := B.returns
  have hts := atoms_spec (ws := wsX6_predictColours) B.pre
  have hown : s.vm.findClass RX6 = some m.cls := findClass_of_methodNamed B.named
  have hlocks := B.notSynchronized
  subst hsz
  have hD := wD_self (sz := s.heap.size) hD0
  have hA9 : ∀ q, s.heap.size ≤ q → wA ad G s.heap.size q := fun q h => Or.inr h
  generalize hAe : wA ad G s.heap.size = A at hD hA9 hZ ⊢
  have hS : va_S A s.heap s.heap [] := va_S.rf
  have hl := lv_entry ([.ref (ad a), va_re ad p0, .int p1, .int p2, .int p3, va_re ad p4, .int p5]) (n := 21) (by cases p0 <;> cases p4 <;> exact Nat.le_of_ble_eq_true rfl)
  rw [lg_entry_eq]
  generalize (lg_sl ([.ref (ad a), va_re ad p0, .int p1, .int p2, .int p3, va_re ad p4, .int p5]) ++ List.replicate (21 - (lg_sl ([.ref (ad a), va_re ad p0, .int p1, .int p2, .int p3, va_re ad p4, .int p5])).length) Slot.unset).toArray = ls at hl ⊢
  have hl : lv_has ls 21 [(0, .ref (ad a)), (1, va_re ad p0), (2, .int p1), (3, .int p2), (4, .int p3), (5, va_re ad p4), (6, .int p5)] := by have e9 : lv_args 0 [.ref (ad a), va_re ad p0, .int p1, .int p2, .int p3, va_re ad p4, .int p5] = [(0, .ref (ad a)), (1, va_re ad p0), (2, .int p1), (3, .int p2), (4, .int p3), (5, va_re ad p4), (6, .int p5)] := (by cases p0 <;> cases p4 <;> rfl); rw [e9] at hl; exact hl
  unfold FX6_predictColours at hF
  refine lv_bipush (v := (8 : Int32)) hx hb dX6_predictColours_0 (by decide) ?_
  refine lv_aloadq_n hx hb dX6_predictColours_2 rfl (lv_at hl 1 rfl) ?_
  obtain ⟨b1, ho1, hc1, hk1, hF⟩ := dr_some hF
  refine W_st (st' := [.ref (ad b1), .int (8 : Int32)]) (by rw [va_some ho1]) ?_
  refine va_get (D := D) (ci := 4) (v := .int (M.1 b1 1)) (C := RX4) (T := TX4) (N := 18) hx hb hts (by decide +kernel) hown hK hP b1 (wld_o ct ad G M hc1 hk1 (by decide)) rfl 1 (by decide) (hts (.fieldLink RX6 83 "VideoSuite$Picture" "width" "I") (by decide +kernel)) (fun _ h9 => h9) rfl dX6_predictColours_3 ?_
  obtain ⟨x2, ex2, hF⟩ := ltt_some hF
  refine lv_topi (fun zx2 ezx2 => ?_)
  obtain rfl : x2 = zx2 := ex2.trans ezx2.symm
  refine lv_imul hx hb dX6_predictColours_6 ?_
  obtain ⟨x3, ex3, hF⟩ := ltt_some hF
  refine lv_topi (fun zx3 ezx3 => ?_)
  obtain rfl : x3 = zx3 := ex3.trans ezx3.symm
  refine lv_istore (lv' := [(7, .int x3), (0, .ref (ad a)), (1, va_re ad p0), (2, .int p1), (3, .int p2), (4, .int p3), (5, va_re ad p4), (6, .int p5)]) hx hb dX6_predictColours_7 hl (by decide) rfl (fun ls hl => ?_)
  refine lv_bipush (v := (8 : Int32)) hx hb dX6_predictColours_9 (by decide) ?_
  refine lv_aloadq_n hx hb dX6_predictColours_11 rfl (lv_at hl 2 rfl) ?_
  refine W_st (st' := [.ref (ad b1), .int (8 : Int32)]) (by rw [va_some ho1]) ?_
  refine va_get (D := D) (ci := 4) (v := .int (M.1 b1 2)) (C := RX4) (T := TX4) (N := 18) hx hb hts (by decide +kernel) hown hK hP b1 (wld_o ct ad G M hc1 hk1 (by decide)) rfl 2 (by decide) (hts (.fieldLink RX6 125 "VideoSuite$Picture" "height" "I") (by decide +kernel)) (fun _ h9 => h9) rfl dX6_predictColours_12 ?_
  obtain ⟨x4, ex4, hF⟩ := ltt_some hF
  refine lv_topi (fun zx4 ezx4 => ?_)
  obtain rfl : x4 = zx4 := ex4.trans ezx4.symm
  refine lv_imul hx hb dX6_predictColours_15 ?_
  obtain ⟨x5, ex5, hF⟩ := ltt_some hF
  refine lv_topi (fun zx5 ezx5 => ?_)
  obtain rfl : x5 = zx5 := ex5.trans ezx5.symm
  refine lv_istore (lv' := [(8, .int x5), (7, .int x3), (0, .ref (ad a)), (1, va_re ad p0), (2, .int p1), (3, .int p2), (4, .int p3), (5, va_re ad p4), (6, .int p5)]) hx hb dX6_predictColours_16 hl (by decide) rfl (fun ls hl => ?_)
  refine lv_iload_n hx hb dX6_predictColours_18 rfl (lv_at hl 4 rfl) ?_
  refine lv_bipush (v := (7 : Int32)) hx hb dX6_predictColours_19 (by decide) ?_
  refine lv_iand hx hb dX6_predictColours_21 ?_
  obtain ⟨x6, ex6, hF⟩ := ltt_some hF
  refine lv_topi (fun zx6 ezx6 => ?_)
  obtain rfl : x6 = zx6 := ex6.trans ezx6.symm
  refine lv_istore (lv' := [(9, .int x6), (8, .int x5), (7, .int x3), (0, .ref (ad a)), (1, va_re ad p0), (2, .int p1), (3, .int p2), (4, .int p3), (5, va_re ad p4), (6, .int p5)]) hx hb dX6_predictColours_22 hl (by decide) rfl (fun ls hl => ?_)
  refine lv_iload_n hx hb dX6_predictColours_24 rfl (lv_at hl 6 rfl) ?_
  refine lv_bipush (v := (7 : Int32)) hx hb dX6_predictColours_25 (by decide) ?_
  refine lv_iand hx hb dX6_predictColours_27 ?_
  obtain ⟨x7, ex7, hF⟩ := ltt_some hF
  refine lv_topi (fun zx7 ezx7 => ?_)
  obtain rfl : x7 = zx7 := ex7.trans ezx7.symm
  refine lv_istore (lv' := [(10, .int x7), (9, .int x6), (8, .int x5), (7, .int x3), (0, .ref (ad a)), (1, va_re ad p0), (2, .int p1), (3, .int p2), (4, .int p3), (5, va_re ad p4), (6, .int p5)]) hx hb dX6_predictColours_28 hl (by decide) rfl (fun ls hl => ?_)
  refine lv_iconst (v := (0 : Int32)) hx hb dX6_predictColours_30 (by decide) ?_
  refine lv_istore (lv' := [(11, .int (0 : Int32)), (10, .int x7), (9, .int x6), (8, .int x5), (7, .int x3), (0, .ref (ad a)), (1, va_re ad p0), (2, .int p1), (3, .int p2), (4, .int p3), (5, va_re ad p4), (6, .int p5)]) hx hb dX6_predictColours_31 hl (by decide) rfl (fun ls hl => ?_)
  obtain ⟨y8, hy8, hF⟩ := bnd_some hF
  have K8 : ∀ (H : Heap) (locs : List Loc) (ls : Array Slot), va_P D classes (wld ct ad G y8.2) H → va_D A (wld ct ad G y8.2) → va_S A s.heap H locs → lv_has ls 21 [(11, .int y8.1), (10, .int x7), (9, .int x6), (8, .int x5), (7, .int x3), (0, .ref (ad a)), (1, va_re ad p0), (2, .int p1), (3, .int p2), (4, .int p3), (5, va_re ad p4), (6, .int p5)] → W p l e (headSpec wsX6_predictColours ({ frames := 0, cells := 0, slots := 0, locals := 0 })).room s m ([.ref (ad a), va_re ad p0, .int p1, .int p2, .int p3, va_re ad p4, .int p5] : List Value).toArray below meth c H locs 0 0 (MQ below (va_Qv (fun (_ : Unit) => True) (fun _ t => kE D ct ad G A y t) A) ([.ref (ad a), va_re ad p0, .int p1, .int p2, .int p3, va_re ad p4, .int p5] : List Value).toArray s 0 0 A) (F0 m 328 ls []) := by
    intro H locs ls hP hD hS hl
    obtain rfl := Option.some.inj hF
    exact W.vret hx hb hr (fun t ht hW => ⟨⟨(), rfl, trivial, ⟨by rw [ht]; exact hP, va_K.moved hW.alike hK, hD⟩⟩, hS.F ht⟩) hS.2.2 dX6_predictColours_328
  clear hF
  refine itr_rule (fun (s9 : Int32 × DD) => ∀ (H : Heap) (locs : List Loc) (ls : Array Slot), va_P D classes (wld ct ad G s9.2) H → va_D A (wld ct ad G s9.2) → va_S A s.heap H locs → lv_has ls 21 [(11, .int s9.1), (10, .int x7), (9, .int x6), (8, .int x5), (7, .int x3), (0, .ref (ad a)), (1, va_re ad p0), (2, .int p1), (3, .int p2), (4, .int p3), (5, va_re ad p4), (6, .int p5)] → W p l e (headSpec wsX6_predictColours ({ frames := 0, cells := 0, slots := 0, locals := 0 })).room s m ([.ref (ad a), va_re ad p0, .int p1, .int p2, .int p3, va_re ad p4, .int p5] : List Value).toArray below meth c H locs 0 0 (MQ below (va_Qv (fun (_ : Unit) => True) (fun _ t => kE D ct ad G A y t) A) ([.ref (ad a), va_re ad p0, .int p1, .int p2, .int p3, va_re ad p4, .int p5] : List Value).toArray s 0 0 A) (F0 m 33 ls [])) ?_ _ _ hy8 _ _ _ hP hD hS (lv_sub hl [0, 1, 2, 3, 4, 5, 6, 7, 8, 9, 10, 11] rfl)
  rintro s9 ⟨z11, hF, hwz11⟩ H locs ls hP hD hS hl
  try dsimp only at hF
  refine lv_iload hx hb dX6_predictColours_33 (lv_at hl 0 rfl) ?_
  refine lv_iload hx hb dX6_predictColours_35 (lv_at hl 9 rfl) ?_
  refine lv_iload hx hb dX6_predictColours_37 (lv_at hl 9 rfl) ?_
  refine lv_imul hx hb dX6_predictColours_39 ?_
  obtain ⟨x12, ex12, hF⟩ := ltt_some hF
  refine lv_topi (fun zx12 ezx12 => ?_)
  obtain rfl : x12 = zx12 := ex12.trans ezx12.symm
  refine lv_icmp_ge (tgt := 328) hx hb dX6_predictColours_40 (by decide) (fun c13 => ?_) (fun c13 => ?_)
  · rw [if_pos c13] at hF
    obtain rfl := Option.some.inj hF
    subst hwz11
    exact K8 _ _ _ hP hD hS (lv_sub hl [0, 1, 2, 3, 4, 5, 6, 7, 8, 9, 10, 11] rfl)
  · rw [if_neg c13] at hF
    refine lv_iload_n hx hb dX6_predictColours_43 rfl (lv_at hl 7 rfl) ?_
    refine lv_iconst (v := (3 : Int32)) hx hb dX6_predictColours_44 (by decide) ?_
    refine lv_ishr hx hb dX6_predictColours_45 ?_
    obtain ⟨x14, ex14, hF⟩ := ltt_some hF
    refine lv_topi (fun zx14 ezx14 => ?_)
    obtain rfl : x14 = zx14 := ex14.trans ezx14.symm
    refine lv_iload hx hb dX6_predictColours_46 (lv_at hl 0 rfl) ?_
    refine lv_iload hx hb dX6_predictColours_48 (lv_at hl 9 rfl) ?_
    obtain ⟨hne, hF⟩ := chk_some hF
    refine lv_irem hx hb dX6_predictColours_50 hne ?_
    obtain ⟨x15, ex15, hF⟩ := ltt_some hF
    refine lv_topi (fun zx15 ezx15 => ?_)
    obtain rfl : x15 = zx15 := ex15.trans ezx15.symm
    refine lv_iadd hx hb dX6_predictColours_51 ?_
    obtain ⟨x16, ex16, hF⟩ := ltt_some hF
    refine lv_topi (fun zx16 ezx16 => ?_)
    obtain rfl : x16 = zx16 := ex16.trans ezx16.symm
    refine lv_istore (lv' := [(12, .int x16), (11, .int s9.1), (10, .int x7), (9, .int x6), (8, .int x5), (7, .int x3), (0, .ref (ad a)), (1, va_re ad p0), (2, .int p1), (3, .int p2), (4, .int p3), (5, va_re ad p4), (6, .int p5)]) hx hb dX6_predictColours_52 hl (by decide) rfl (fun ls hl => ?_)
    refine lv_iload_n hx hb dX6_predictColours_54 rfl (lv_at hl 9 rfl) ?_
    refine lv_iconst (v := (3 : Int32)) hx hb dX6_predictColours_55 (by decide) ?_
    refine lv_ishr hx hb dX6_predictColours_56 ?_
    obtain ⟨x17, ex17, hF⟩ := ltt_some hF
    refine lv_topi (fun zx17 ezx17 => ?_)
    obtain rfl : x17 = zx17 := ex17.trans ezx17.symm
    refine lv_iload hx hb dX6_predictColours_57 (lv_at hl 1 rfl) ?_
    refine lv_iload hx hb dX6_predictColours_59 (lv_at hl 10 rfl) ?_
    obtain ⟨hne, hF⟩ := chk_some hF
    refine lv_idiv hx hb dX6_predictColours_61 hne ?_
    obtain ⟨x18, ex18, hF⟩ := ltt_some hF
    refine lv_topi (fun zx18 ezx18 => ?_)
    obtain rfl : x18 = zx18 := ex18.trans ezx18.symm
    refine lv_iadd hx hb dX6_predictColours_62 ?_
    obtain ⟨x19, ex19, hF⟩ := ltt_some hF
    refine lv_topi (fun zx19 ezx19 => ?_)
    obtain rfl : x19 = zx19 := ex19.trans ezx19.symm
    refine lv_istore (lv' := [(13, .int x19), (12, .int x16), (11, .int s9.1), (10, .int x7), (9, .int x6), (8, .int x5), (7, .int x3), (0, .ref (ad a)), (1, va_re ad p0), (2, .int p1), (3, .int p2), (4, .int p3), (5, va_re ad p4), (6, .int p5)]) hx hb dX6_predictColours_63 hl (by decide) rfl (fun ls hl => ?_)
    refine lv_iload hx hb dX6_predictColours_65 (lv_at hl 1 rfl) ?_
    obtain ⟨y20, hy20, hF⟩ := bnd_some hF
    have J20 : ∀ (H : Heap) (locs : List Loc) (ls : Array Slot), va_P D classes (wld ct ad G s9.2) H → va_D A (wld ct ad G s9.2) → va_S A s.heap H locs → lv_has ls 21 [(13, .int x19), (12, .int x16), (11, .int s9.1), (10, .int x7), (9, .int x6), (8, .int x5), (7, .int x3), (0, .ref (ad a)), (1, va_re ad p0), (2, .int p1), (3, .int p2), (4, .int p3), (5, va_re ad p4), (6, .int p5)] → W p l e (headSpec wsX6_predictColours ({ frames := 0, cells := 0, slots := 0, locals := 0 })).room s m ([.ref (ad a), va_re ad p0, .int p1, .int p2, .int p3, va_re ad p4, .int p5] : List Value).toArray below meth c H locs 0 0 (MQ below (va_Qv (fun (_ : Unit) => True) (fun _ t => kE D ct ad G A y t) A) ([.ref (ad a), va_re ad p0, .int p1, .int p2, .int p3, va_re ad p4, .int p5] : List Value).toArray s 0 0 A) (F0 m 90 ls [.int y20]) := by
      intro H locs ls hP hD hS hl
      refine lv_istore (lv' := [(14, .int y20), (13, .int x19), (12, .int x16), (11, .int s9.1), (10, .int x7), (9, .int x6), (8, .int x5), (7, .int x3), (0, .ref (ad a)), (1, va_re ad p0), (2, .int p1), (3, .int p2), (4, .int p3), (5, va_re ad p4), (6, .int p5)]) hx hb dX6_predictColours_90 hl (by decide) rfl (fun ls hl => ?_)
      refine lv_iload hx hb dX6_predictColours_92 (lv_at hl 2 rfl) ?_
      refine lv_iconst (v := (-1 : Int32)) hx hb dX6_predictColours_94 (by decide) ?_
      obtain ⟨y21, hy21, hF⟩ := bnd_some hF
      have J21 : ∀ (H : Heap) (locs : List Loc) (ls : Array Slot), va_P D classes (wld ct ad G s9.2) H → va_D A (wld ct ad G s9.2) → va_S A s.heap H locs → lv_has ls 21 [(14, .int y20), (13, .int x19), (12, .int x16), (11, .int s9.1), (10, .int x7), (9, .int x6), (8, .int x5), (7, .int x3), (0, .ref (ad a)), (1, va_re ad p0), (2, .int p1), (3, .int p2), (4, .int p3), (5, va_re ad p4), (6, .int p5)] → W p l e (headSpec wsX6_predictColours ({ frames := 0, cells := 0, slots := 0, locals := 0 })).room s m ([.ref (ad a), va_re ad p0, .int p1, .int p2, .int p3, va_re ad p4, .int p5] : List Value).toArray below meth c H locs 0 0 (MQ below (va_Qv (fun (_ : Unit) => True) (fun _ t => kE D ct ad G A y t) A) ([.ref (ad a), va_re ad p0, .int p1, .int p2, .int p3, va_re ad p4, .int p5] : List Value).toArray s 0 0 A) (F0 m 122 ls [.int y21]) := by
        intro H locs ls hP hD hS hl
        refine lv_istore (lv' := [(15, .int y21), (14, .int y20), (13, .int x19), (12, .int x16), (11, .int s9.1), (10, .int x7), (9, .int x6), (8, .int x5), (7, .int x3), (0, .ref (ad a)), (1, va_re ad p0), (2, .int p1), (3, .int p2), (4, .int p3), (5, va_re ad p4), (6, .int p5)]) hx hb dX6_predictColours_122 hl (by decide) rfl (fun ls hl => ?_)
        refine lv_iload hx hb dX6_predictColours_124 (lv_at hl 2 rfl) ?_
        obtain ⟨y22, hy22, hF⟩ := bnd_some hF
        have J22 : ∀ (H : Heap) (locs : List Loc) (ls : Array Slot), va_P D classes (wld ct ad G s9.2) H → va_D A (wld ct ad G s9.2) → va_S A s.heap H locs → lv_has ls 21 [(15, .int y21), (14, .int y20), (13, .int x19), (12, .int x16), (11, .int s9.1), (10, .int x7), (9, .int x6), (8, .int x5), (7, .int x3), (0, .ref (ad a)), (1, va_re ad p0), (2, .int p1), (3, .int p2), (4, .int p3), (5, va_re ad p4), (6, .int p5)] → W p l e (headSpec wsX6_predictColours ({ frames := 0, cells := 0, slots := 0, locals := 0 })).room s m ([.ref (ad a), va_re ad p0, .int p1, .int p2, .int p3, va_re ad p4, .int p5] : List Value).toArray below meth c H locs 0 0 (MQ below (va_Qv (fun (_ : Unit) => True) (fun _ t => kE D ct ad G A y t) A) ([.ref (ad a), va_re ad p0, .int p1, .int p2, .int p3, va_re ad p4, .int p5] : List Value).toArray s 0 0 A) (F0 m 149 ls [.int y22]) := by
          intro H locs ls hP hD hS hl
          refine lv_iload hx hb dX6_predictColours_149 (lv_at hl 8 rfl) ?_
          refine lv_imul hx hb dX6_predictColours_151 ?_
          obtain ⟨x23, ex23, hF⟩ := ltt_some hF
          refine lv_topi (fun zx23 ezx23 => ?_)
          obtain rfl : x23 = zx23 := ex23.trans ezx23.symm
          refine lv_istore (lv' := [(16, .int x23), (15, .int y21), (14, .int y20), (13, .int x19), (12, .int x16), (11, .int s9.1), (10, .int x7), (9, .int x6), (8, .int x5), (7, .int x3), (0, .ref (ad a)), (1, va_re ad p0), (2, .int p1), (3, .int p2), (4, .int p3), (5, va_re ad p4), (6, .int p5)]) hx hb dX6_predictColours_152 hl (by decide) rfl (fun ls hl => ?_)
          refine lv_iload hx hb dX6_predictColours_154 (lv_at hl 3 rfl) ?_
          refine lv_iconst (v := (-1 : Int32)) hx hb dX6_predictColours_156 (by decide) ?_
          obtain ⟨y24, hy24, hF⟩ := bnd_some hF
          have J24 : ∀ (H : Heap) (locs : List Loc) (ls : Array Slot), va_P D classes (wld ct ad G s9.2) H → va_D A (wld ct ad G s9.2) → va_S A s.heap H locs → lv_has ls 21 [(16, .int x23), (15, .int y21), (14, .int y20), (13, .int x19), (12, .int x16), (11, .int s9.1), (10, .int x7), (9, .int x6), (8, .int x5), (7, .int x3), (0, .ref (ad a)), (1, va_re ad p0), (2, .int p1), (3, .int p2), (4, .int p3), (5, va_re ad p4), (6, .int p5)] → W p l e (headSpec wsX6_predictColours ({ frames := 0, cells := 0, slots := 0, locals := 0 })).room s m ([.ref (ad a), va_re ad p0, .int p1, .int p2, .int p3, va_re ad p4, .int p5] : List Value).toArray below meth c H locs 0 0 (MQ below (va_Qv (fun (_ : Unit) => True) (fun _ t => kE D ct ad G A y t) A) ([.ref (ad a), va_re ad p0, .int p1, .int p2, .int p3, va_re ad p4, .int p5] : List Value).toArray s 0 0 A) (F0 m 184 ls [.int y24]) := by
            intro H locs ls hP hD hS hl
            refine lv_iload hx hb dX6_predictColours_184 (lv_at hl 9 rfl) ?_
            refine lv_imul hx hb dX6_predictColours_186 ?_
            obtain ⟨x25, ex25, hF⟩ := ltt_some hF
            refine lv_topi (fun zx25 ezx25 => ?_)
            obtain rfl : x25 = zx25 := ex25.trans ezx25.symm
            refine lv_istore (lv' := [(17, .int x25), (16, .int x23), (15, .int y21), (14, .int y20), (13, .int x19), (12, .int x16), (11, .int s9.1), (10, .int x7), (9, .int x6), (8, .int x5), (7, .int x3), (0, .ref (ad a)), (1, va_re ad p0), (2, .int p1), (3, .int p2), (4, .int p3), (5, va_re ad p4), (6, .int p5)]) hx hb dX6_predictColours_187 hl (by decide) rfl (fun ls hl => ?_)
            refine lv_iconst (v := (1 : Int32)) hx hb dX6_predictColours_189 (by decide) ?_
            refine lv_istore (lv' := [(18, .int (1 : Int32)), (17, .int x25), (16, .int x23), (15, .int y21), (14, .int y20), (13, .int x19), (12, .int x16), (11, .int s9.1), (10, .int x7), (9, .int x6), (8, .int x5), (7, .int x3), (0, .ref (ad a)), (1, va_re ad p0), (2, .int p1), (3, .int p2), (4, .int p3), (5, va_re ad p4), (6, .int p5)]) hx hb dX6_predictColours_190 hl (by decide) rfl (fun ls hl => ?_)
            obtain ⟨y26, hy26, hF⟩ := bnd_some hF
            have K26 : ∀ (H : Heap) (locs : List Loc) (ls : Array Slot), va_P D classes (wld ct ad G y26.2) H → va_D A (wld ct ad G y26.2) → va_S A s.heap H locs → lv_has ls 21 [(18, .int y26.1), (17, .int x25), (16, .int x23), (15, .int y21), (14, .int y20), (13, .int x19), (12, .int x16), (11, .int s9.1), (10, .int x7), (9, .int x6), (8, .int x5), (7, .int x3), (0, .ref (ad a)), (1, va_re ad p0), (2, .int p1), (3, .int p2), (4, .int p3), (5, va_re ad p4), (6, .int p5)] → W p l e (headSpec wsX6_predictColours ({ frames := 0, cells := 0, slots := 0, locals := 0 })).room s m ([.ref (ad a), va_re ad p0, .int p1, .int p2, .int p3, va_re ad p4, .int p5] : List Value).toArray below meth c H locs 0 0 (MQ below (va_Qv (fun (_ : Unit) => True) (fun _ t => kE D ct ad G A y t) A) ([.ref (ad a), va_re ad p0, .int p1, .int p2, .int p3, va_re ad p4, .int p5] : List Value).toArray s 0 0 A) (F0 m 322 ls []) := by
              intro H locs ls hP hD hS hl
              obtain ⟨x29, ex29, hF⟩ := ltt_some hF
              refine lv_iinc (v := x29) (lv' := [(11, .int x29), (18, .int y26.1), (17, .int x25), (16, .int x23), (15, .int y21), (14, .int y20), (13, .int x19), (12, .int x16), (10, .int x7), (9, .int x6), (8, .int x5), (7, .int x3), (0, .ref (ad a)), (1, va_re ad p0), (2, .int p1), (3, .int p2), (4, .int p3), (5, va_re ad p4), (6, .int p5)]) hx hb dX6_predictColours_322 hl (k := 7) rfl (by rw [ex29]; rfl) (by decide) rfl (fun ls hl => ?_)
              refine lv_goto (tgt := 33) hx hb dX6_predictColours_325 (by decide) ?_
              obtain rfl := Option.some.inj hF
              exact hwz11 _ _ _ hP hD hS (lv_sub hl [0, 8, 9, 10, 11, 12, 13, 14, 15, 16, 17, 18] rfl)
            clear hF
            refine itr_rule (fun (s27 : Int32 × DD) => ∀ (H : Heap) (locs : List Loc) (ls : Array Slot), va_P D classes (wld ct ad G s27.2) H → va_D A (wld ct ad G s27.2) → va_S A s.heap H locs → lv_has ls 21 [(18, .int s27.1), (17, .int x25), (16, .int x23), (15, .int y21), (14, .int y20), (13, .int x19), (12, .int x16), (11, .int s9.1), (10, .int x7), (9, .int x6), (8, .int x5), (7, .int x3), (0, .ref (ad a)), (1, va_re ad p0), (2, .int p1), (3, .int p2), (4, .int p3), (5, va_re ad p4), (6, .int p5)] → W p l e (headSpec wsX6_predictColours ({ frames := 0, cells := 0, slots := 0, locals := 0 })).room s m ([.ref (ad a), va_re ad p0, .int p1, .int p2, .int p3, va_re ad p4, .int p5] : List Value).toArray below meth c H locs 0 0 (MQ below (va_Qv (fun (_ : Unit) => True) (fun _ t => kE D ct ad G A y t) A) ([.ref (ad a), va_re ad p0, .int p1, .int p2, .int p3, va_re ad p4, .int p5] : List Value).toArray s 0 0 A) (F0 m 192 ls [])) ?_ _ _ hy26 _ _ _ hP hD hS (lv_sub hl [0, 1, 2, 3, 4, 5, 6, 7, 8, 9, 10, 11, 12, 13, 14, 15, 16, 17, 18] rfl)
            rintro s27 ⟨z30, hF, hwz30⟩ H locs ls hP hD hS hl
            try dsimp only at hF
            refine lv_iload hx hb dX6_predictColours_192 (lv_at hl 0 rfl) ?_
            refine lv_iconst (v := (3 : Int32)) hx hb dX6_predictColours_194 (by decide) ?_
            refine lv_icmp_ge (tgt := 322) hx hb dX6_predictColours_195 (by decide) (fun c31 => ?_) (fun c31 => ?_)
            · rw [if_pos c31] at hF
              obtain rfl := Option.some.inj hF
              subst hwz30
              exact K26 _ _ _ hP hD hS (lv_sub hl [0, 1, 2, 3, 4, 5, 6, 7, 8, 9, 10, 11, 12, 13, 14, 15, 16, 17, 18] rfl)
            · rw [if_neg c31] at hF
              refine lv_aloadq_n hx hb dX6_predictColours_198 rfl (lv_at hl 13 rfl) ?_
              refine W_st (st' := [.ref (ad b1)]) (by rw [va_some ho1]) ?_
              refine va_get (D := D) (ci := 4) (v := va_re ad (s27.2.2 b1 4)) (C := RX4) (T := TX4) (N := 18) hx hb hts (by decide +kernel) hown hK hP b1 (wld_o ct ad G s27.2 hc1 hk1 (by decide)) rfl 4 (by decide) (hts (.fieldLink RX6 121 "VideoSuite$Picture" "plane" "[[I") (by decide +kernel)) (fun _ h9 => h9) rfl dX6_predictColours_199 ?_
              refine lv_iload hx hb dX6_predictColours_202 (lv_at hl 0 rfl) ?_
              obtain ⟨b32, ho32, hc32, hk32, hF⟩ := dr_some hF
              refine W_st (st' := [.int s27.1, .ref (ad b32)]) (by rw [va_some ho32]) ?_
              obtain ⟨hvc, hF⟩ := chk_some hF
              refine ld_g hx hb hK hP hc32 hk32 hvc dX6_predictColours_204 ?_
              refine lv_astoreq (lv' := [(19, va_re ad (s27.2.2 b32 s27.1.toNatClampNeg)), (18, .int s27.1), (17, .int x25), (16, .int x23), (15, .int y21), (14, .int y20), (13, .int x19), (12, .int x16), (11, .int s9.1), (10, .int x7), (9, .int x6), (8, .int x5), (7, .int x3), (0, .ref (ad a)), (1, va_re ad p0), (2, .int p1), (3, .int p2), (4, .int p3), (5, va_re ad p4), (6, .int p5)]) hx hb dX6_predictColours_205 hl (by decide) rfl (fun ls hl => ?_)
              refine lv_bipush (v := (8 : Int32)) hx hb dX6_predictColours_207 (by decide) ?_
              refine lv_iload hx hb dX6_predictColours_209 (lv_at hl 10 rfl) ?_
              refine lv_isub hx hb dX6_predictColours_211 ?_
              obtain ⟨x33, ex33, hF⟩ := ltt_some hF
              refine lv_topi (fun zx33 ezx33 => ?_)
              obtain rfl : x33 = zx33 := ex33.trans ezx33.symm
              refine lv_bipush (v := (8 : Int32)) hx hb dX6_predictColours_212 (by decide) ?_
              refine lv_iload hx hb dX6_predictColours_214 (lv_at hl 9 rfl) ?_
              refine lv_isub hx hb dX6_predictColours_216 ?_
              obtain ⟨x34, ex34, hF⟩ := ltt_some hF
              refine lv_topi (fun zx34 ezx34 => ?_)
              obtain rfl : x34 = zx34 := ex34.trans ezx34.symm
              refine lv_imul hx hb dX6_predictColours_217 ?_
              obtain ⟨x35, ex35, hF⟩ := ltt_some hF
              refine lv_topi (fun zx35 ezx35 => ?_)
              obtain rfl : x35 = zx35 := ex35.trans ezx35.symm
              refine lv_aloadq hx hb dX6_predictColours_218 (lv_at hl 0 rfl) ?_
              refine lv_iload hx hb dX6_predictColours_220 (lv_at hl 3 rfl) ?_
              refine lv_iload hx hb dX6_predictColours_222 (lv_at hl 5 rfl) ?_
              refine lv_iadd hx hb dX6_predictColours_224 ?_
              obtain ⟨x36, ex36, hF⟩ := ltt_some hF
              refine lv_topi (fun zx36 ezx36 => ?_)
              obtain rfl : x36 = zx36 := ex36.trans ezx36.symm
              obtain ⟨b37, ho37, hc37, hk37, hF⟩ := dr_some hF
              refine W_st (st' := [.int x36, .ref (ad b37), .int x35]) (by rw [va_some ho37]) ?_
              obtain ⟨hvc, hF⟩ := chk_some hF
              refine va_iald hx hb hK hP b37 1 (wld_i ct ad G s27.2 hc37 hk37) rfl hvc dX6_predictColours_225 ?_
              obtain ⟨x38, ex38, hF⟩ := ltt_some hF
              refine lv_topi (fun zx38 ezx38 => ?_)
              obtain rfl : x38 = zx38 := ex38.trans ezx38.symm
              refine lv_imul hx hb dX6_predictColours_226 ?_
              obtain ⟨x39, ex39, hF⟩ := ltt_some hF
              refine lv_topi (fun zx39 ezx39 => ?_)
              obtain rfl : x39 = zx39 := ex39.trans ezx39.symm
              refine lv_iload hx hb dX6_predictColours_227 (lv_at hl 10 rfl) ?_
              refine lv_bipush (v := (8 : Int32)) hx hb dX6_predictColours_229 (by decide) ?_
              refine lv_iload hx hb dX6_predictColours_231 (lv_at hl 9 rfl) ?_
              refine lv_isub hx hb dX6_predictColours_233 ?_
              obtain ⟨x40, ex40, hF⟩ := ltt_some hF
              refine lv_topi (fun zx40 ezx40 => ?_)
              obtain rfl : x40 = zx40 := ex40.trans ezx40.symm
              refine lv_imul hx hb dX6_predictColours_234 ?_
              obtain ⟨x41, ex41, hF⟩ := ltt_some hF
              refine lv_topi (fun zx41 ezx41 => ?_)
              obtain rfl : x41 = zx41 := ex41.trans ezx41.symm
              refine lv_aloadq hx hb dX6_predictColours_235 (lv_at hl 0 rfl) ?_
              refine lv_iload hx hb dX6_predictColours_237 (lv_at hl 3 rfl) ?_
              refine lv_iload hx hb dX6_predictColours_239 (lv_at hl 4 rfl) ?_
              refine lv_iadd hx hb dX6_predictColours_241 ?_
              obtain ⟨x42, ex42, hF⟩ := ltt_some hF
              refine lv_topi (fun zx42 ezx42 => ?_)
              obtain rfl : x42 = zx42 := ex42.trans ezx42.symm
              refine W_st (st' := [.int x42, .ref (ad b37), .int x41, .int x39]) (by rw [va_some ho37]) ?_
              obtain ⟨hvc, hF⟩ := chk_some hF
              refine va_iald hx hb hK hP b37 1 (wld_i ct ad G s27.2 hc37 hk37) rfl hvc dX6_predictColours_242 ?_
              obtain ⟨x43, ex43, hF⟩ := ltt_some hF
              refine lv_topi (fun zx43 ezx43 => ?_)
              obtain rfl : x43 = zx43 := ex43.trans ezx43.symm
              refine lv_imul hx hb dX6_predictColours_243 ?_
              obtain ⟨x44, ex44, hF⟩ := ltt_some hF
              refine lv_topi (fun zx44 ezx44 => ?_)
              obtain rfl : x44 = zx44 := ex44.trans ezx44.symm
              refine lv_iadd hx hb dX6_predictColours_244 ?_
              obtain ⟨x45, ex45, hF⟩ := ltt_some hF
              refine lv_topi (fun zx45 ezx45 => ?_)
              obtain rfl : x45 = zx45 := ex45.trans ezx45.symm
              refine lv_bipush (v := (8 : Int32)) hx hb dX6_predictColours_245 (by decide) ?_
              refine lv_iload hx hb dX6_predictColours_247 (lv_at hl 10 rfl) ?_
              refine lv_isub hx hb dX6_predictColours_249 ?_
              obtain ⟨x46, ex46, hF⟩ := ltt_some hF
              refine lv_topi (fun zx46 ezx46 => ?_)
              obtain rfl : x46 = zx46 := ex46.trans ezx46.symm
              refine lv_iload hx hb dX6_predictColours_250 (lv_at hl 9 rfl) ?_
              refine lv_imul hx hb dX6_predictColours_252 ?_
              obtain ⟨x47, ex47, hF⟩ := ltt_some hF
              refine lv_topi (fun zx47 ezx47 => ?_)
              obtain rfl : x47 = zx47 := ex47.trans ezx47.symm
              refine lv_aloadq hx hb dX6_predictColours_253 (lv_at hl 0 rfl) ?_
              refine lv_iload hx hb dX6_predictColours_255 (lv_at hl 2 rfl) ?_
              refine lv_iload hx hb dX6_predictColours_257 (lv_at hl 5 rfl) ?_
              refine lv_iadd hx hb dX6_predictColours_259 ?_
              obtain ⟨x48, ex48, hF⟩ := ltt_some hF
              refine lv_topi (fun zx48 ezx48 => ?_)
              obtain rfl : x48 = zx48 := ex48.trans ezx48.symm
              refine W_st (st' := [.int x48, .ref (ad b37), .int x47, .int x45]) (by rw [va_some ho37]) ?_
              obtain ⟨hvc, hF⟩ := chk_some hF
              refine va_iald hx hb hK hP b37 1 (wld_i ct ad G s27.2 hc37 hk37) rfl hvc dX6_predictColours_260 ?_
              obtain ⟨x49, ex49, hF⟩ := ltt_some hF
              refine lv_topi (fun zx49 ezx49 => ?_)
              obtain rfl : x49 = zx49 := ex49.trans ezx49.symm
              refine lv_imul hx hb dX6_predictColours_261 ?_
              obtain ⟨x50, ex50, hF⟩ := ltt_some hF
              refine lv_topi (fun zx50 ezx50 => ?_)
              obtain rfl : x50 = zx50 := ex50.trans ezx50.symm
              refine lv_iadd hx hb dX6_predictColours_262 ?_
              obtain ⟨x51, ex51, hF⟩ := ltt_some hF
              refine lv_topi (fun zx51 ezx51 => ?_)
              obtain rfl : x51 = zx51 := ex51.trans ezx51.symm
              refine lv_iload hx hb dX6_predictColours_263 (lv_at hl 10 rfl) ?_
              refine lv_iload hx hb dX6_predictColours_265 (lv_at hl 9 rfl) ?_
              refine lv_imul hx hb dX6_predictColours_267 ?_
              obtain ⟨x52, ex52, hF⟩ := ltt_some hF
              refine lv_topi (fun zx52 ezx52 => ?_)
              obtain rfl : x52 = zx52 := ex52.trans ezx52.symm
              refine lv_aloadq hx hb dX6_predictColours_268 (lv_at hl 0 rfl) ?_
              refine lv_iload hx hb dX6_predictColours_270 (lv_at hl 2 rfl) ?_
              refine lv_iload hx hb dX6_predictColours_272 (lv_at hl 4 rfl) ?_
              refine lv_iadd hx hb dX6_predictColours_274 ?_
              obtain ⟨x53, ex53, hF⟩ := ltt_some hF
              refine lv_topi (fun zx53 ezx53 => ?_)
              obtain rfl : x53 = zx53 := ex53.trans ezx53.symm
              refine W_st (st' := [.int x53, .ref (ad b37), .int x52, .int x51]) (by rw [va_some ho37]) ?_
              obtain ⟨hvc, hF⟩ := chk_some hF
              refine va_iald hx hb hK hP b37 1 (wld_i ct ad G s27.2 hc37 hk37) rfl hvc dX6_predictColours_275 ?_
              obtain ⟨x54, ex54, hF⟩ := ltt_some hF
              refine lv_topi (fun zx54 ezx54 => ?_)
              obtain rfl : x54 = zx54 := ex54.trans ezx54.symm
              refine lv_imul hx hb dX6_predictColours_276 ?_
              obtain ⟨x55, ex55, hF⟩ := ltt_some hF
              refine lv_topi (fun zx55 ezx55 => ?_)
              obtain rfl : x55 = zx55 := ex55.trans ezx55.symm
              refine lv_iadd hx hb dX6_predictColours_277 ?_
              obtain ⟨x56, ex56, hF⟩ := ltt_some hF
              refine lv_topi (fun zx56 ezx56 => ?_)
              obtain rfl : x56 = zx56 := ex56.trans ezx56.symm
              refine lv_istore (lv' := [(20, .int x56), (19, va_re ad (s27.2.2 b32 s27.1.toNatClampNeg)), (18, .int s27.1), (17, .int x25), (16, .int x23), (15, .int y21), (14, .int y20), (13, .int x19), (12, .int x16), (11, .int s9.1), (10, .int x7), (9, .int x6), (8, .int x5), (7, .int x3), (0, .ref (ad a)), (1, va_re ad p0), (2, .int p1), (3, .int p2), (4, .int p3), (5, va_re ad p4), (6, .int p5)]) hx hb dX6_predictColours_278 hl (by decide) (by generalize ((s27.2.2 b32 s27.1.toNatClampNeg)) = o9; cases o9 <;> rfl) (fun ls hl => ?_)
              refine lv_aloadq hx hb dX6_predictColours_280 (lv_at hl 19 rfl) ?_
              refine lv_iload hx hb dX6_predictColours_282 (lv_at hl 20 rfl) ?_
              refine lv_bipush (v := (64 : Int32)) hx hb dX6_predictColours_284 (by decide) ?_
              refine lv_iload hx hb dX6_predictColours_286 (lv_at hl 2 rfl) ?_
              refine lv_iconst (v := (1 : Int32)) hx hb dX6_predictColours_288 (by decide) ?_
              refine lv_isub hx hb dX6_predictColours_289 ?_
              obtain ⟨x57, ex57, hF⟩ := ltt_some hF
              refine lv_topi (fun zx57 ezx57 => ?_)
              obtain rfl : x57 = zx57 := ex57.trans ezx57.symm
              refine lv_imul hx hb dX6_predictColours_290 ?_
              obtain ⟨x58, ex58, hF⟩ := ltt_some hF
              refine lv_topi (fun zx58 ezx58 => ?_)
              obtain rfl : x58 = zx58 := ex58.trans ezx58.symm
              refine lv_iadd hx hb dX6_predictColours_291 ?_
              obtain ⟨x59, ex59, hF⟩ := ltt_some hF
              refine lv_topi (fun zx59 ezx59 => ?_)
              obtain rfl : x59 = zx59 := ex59.trans ezx59.symm
              refine lv_iload hx hb dX6_predictColours_292 (lv_at hl 9 rfl) ?_
              refine lv_iload hx hb dX6_predictColours_294 (lv_at hl 18 rfl) ?_
              obtain ⟨hne, hF⟩ := chk_some hF
              refine lv_idiv hx hb dX6_predictColours_296 hne ?_
              obtain ⟨x60, ex60, hF⟩ := ltt_some hF
              refine lv_topi (fun zx60 ezx60 => ?_)
              obtain rfl : x60 = zx60 := ex60.trans ezx60.symm
              refine lv_bipush (v := (8 : Int32)) hx hb dX6_predictColours_297 (by decide) ?_
              refine lv_imul hx hb dX6_predictColours_299 ?_
              obtain ⟨x61, ex61, hF⟩ := ltt_some hF
              refine lv_topi (fun zx61 ezx61 => ?_)
              obtain rfl : x61 = zx61 := ex61.trans ezx61.symm
              refine lv_iadd hx hb dX6_predictColours_300 ?_
              obtain ⟨x62, ex62, hF⟩ := ltt_some hF
              refine lv_topi (fun zx62 ezx62 => ?_)
              obtain rfl : x62 = zx62 := ex62.trans ezx62.symm
              refine lv_iload hx hb dX6_predictColours_301 (lv_at hl 9 rfl) ?_
              refine lv_iload hx hb dX6_predictColours_303 (lv_at hl 18 rfl) ?_
              obtain ⟨hne, hF⟩ := chk_some hF
              refine lv_irem hx hb dX6_predictColours_305 hne ?_
              obtain ⟨x63, ex63, hF⟩ := ltt_some hF
              refine lv_topi (fun zx63 ezx63 => ?_)
              obtain rfl : x63 = zx63 := ex63.trans ezx63.symm
              refine lv_iadd hx hb dX6_predictColours_306 ?_
              obtain ⟨x64, ex64, hF⟩ := ltt_some hF
              refine lv_topi (fun zx64 ezx64 => ?_)
              obtain rfl : x64 = zx64 := ex64.trans ezx64.symm
              refine lv_iload hx hb dX6_predictColours_307 (lv_at hl 0 rfl) ?_
              refine lv_bipush (v := (32 : Int32)) hx hb dX6_predictColours_309 (by decide) ?_
              refine lv_iadd hx hb dX6_predictColours_311 ?_
              obtain ⟨x65, ex65, hF⟩ := ltt_some hF
              refine lv_topi (fun zx65 ezx65 => ?_)
              obtain rfl : x65 = zx65 := ex65.trans ezx65.symm
              refine lv_bipush (v := (6 : Int32)) hx hb dX6_predictColours_312 (by decide) ?_
              refine lv_ishr hx hb dX6_predictColours_314 ?_
              obtain ⟨x66, ex66, hF⟩ := ltt_some hF
              refine lv_topi (fun zx66 ezx66 => ?_)
              obtain rfl : x66 = zx66 := ex66.trans ezx66.symm
              obtain ⟨b67, ho67, hc67, hk67, hF⟩ := dr_some hF
              refine W_st (st' := [.int x66, .int x64, .ref (ad b67)]) (by rw [va_some ho67]) ?_
              obtain ⟨hvc, hF⟩ := chk_some hF
              refine va_iast hx hb hK hP hD hS b67 1 (wld_i ct ad G s27.2 hc67 hk67) rfl hvc dX6_predictColours_315 (fun H locs hP hD hS => ?_)
              obtain ⟨M68, eM68, hF⟩ := ltt_some hF
              rw [set_i ct ad G s27.2 hc67 hk67, ← eM68] at hP hD
              obtain ⟨x69, ex69, hF⟩ := ltt_some hF
              refine lv_iinc (v := x69) (lv' := [(18, .int x69), (20, .int x56), (19, va_re ad (s27.2.2 b32 s27.1.toNatClampNeg)), (17, .int x25), (16, .int x23), (15, .int y21), (14, .int y20), (13, .int x19), (12, .int x16), (11, .int s9.1), (10, .int x7), (9, .int x6), (8, .int x5), (7, .int x3), (0, .ref (ad a)), (1, va_re ad p0), (2, .int p1), (3, .int p2), (4, .int p3), (5, va_re ad p4), (6, .int p5)]) hx hb dX6_predictColours_316 hl (k := 2) rfl (by rw [ex69]; rfl) (by decide) rfl (fun ls hl => ?_)
              refine lv_goto (tgt := 192) hx hb dX6_predictColours_319 (by decide) ?_
              obtain rfl := Option.some.inj hF
              exact hwz30 _ _ _ hP hD hS (lv_sub hl [0, 3, 4, 5, 6, 7, 8, 9, 10, 11, 12, 13, 14, 15, 16, 17, 18, 19, 20] rfl)
          clear hF
          have hF := hy24
          clear hy24
          refine lv_icmp_ge (tgt := 164) hx hb dX6_predictColours_157 (by decide) (fun c70 => ?_) (fun c70 => ?_)
          · rw [if_pos c70] at hF
            refine lv_iload hx hb dX6_predictColours_164 (lv_at hl 3 rfl) ?_
            refine lv_iload hx hb dX6_predictColours_166 (lv_at hl 8 rfl) ?_
            refine lv_iconst (v := (1 : Int32)) hx hb dX6_predictColours_168 (by decide) ?_
            refine lv_isub hx hb dX6_predictColours_169 ?_
            obtain ⟨x71, ex71, hF⟩ := ltt_some hF
            refine lv_topi (fun zx71 ezx71 => ?_)
            obtain rfl : x71 = zx71 := ex71.trans ezx71.symm
            obtain ⟨y72, hy72, hF⟩ := bnd_some hF
            have J72 : ∀ (H : Heap) (locs : List Loc) (ls : Array Slot), va_P D classes (wld ct ad G s9.2) H → va_D A (wld ct ad G s9.2) → va_S A s.heap H locs → lv_has ls 21 [(16, .int x23), (15, .int y21), (14, .int y20), (13, .int x19), (12, .int x16), (11, .int s9.1), (10, .int x7), (9, .int x6), (8, .int x5), (7, .int x3), (0, .ref (ad a)), (1, va_re ad p0), (2, .int p1), (3, .int p2), (4, .int p3), (5, va_re ad p4), (6, .int p5)] → W p l e (headSpec wsX6_predictColours ({ frames := 0, cells := 0, slots := 0, locals := 0 })).room s m ([.ref (ad a), va_re ad p0, .int p1, .int p2, .int p3, va_re ad p4, .int p5] : List Value).toArray below meth c H locs 0 0 (MQ below (va_Qv (fun (_ : Unit) => True) (fun _ t => kE D ct ad G A y t) A) ([.ref (ad a), va_re ad p0, .int p1, .int p2, .int p3, va_re ad p4, .int p5] : List Value).toArray s 0 0 A) (F0 m 184 ls [.int y72]) := by
              intro H locs ls hP hD hS hl
              obtain rfl := Option.some.inj hF
              exact J24 _ _ _ hP hD hS (lv_sub hl [0, 1, 2, 3, 4, 5, 6, 7, 8, 9, 10, 11, 12, 13, 14, 15, 16] rfl)
            clear hF
            have hF := hy72
            clear hy72
            refine lv_icmp_lt (tgt := 180) hx hb dX6_predictColours_170 (by decide) (fun c73 => ?_) (fun c73 => ?_)
            · rw [if_pos c73] at hF
              refine lv_iload hx hb dX6_predictColours_180 (lv_at hl 3 rfl) ?_
              refine lv_iconst (v := (1 : Int32)) hx hb dX6_predictColours_182 (by decide) ?_
              refine lv_iadd hx hb dX6_predictColours_183 ?_
              obtain ⟨x74, ex74, hF⟩ := ltt_some hF
              refine lv_topi (fun zx74 ezx74 => ?_)
              obtain rfl : x74 = zx74 := ex74.trans ezx74.symm
              obtain rfl := Option.some.inj hF
              exact J72 _ _ _ hP hD hS (lv_sub hl [0, 1, 2, 3, 4, 5, 6, 7, 8, 9, 10, 11, 12, 13, 14, 15, 16] rfl)
            · rw [if_neg c73] at hF
              refine lv_iload hx hb dX6_predictColours_173 (lv_at hl 8 rfl) ?_
              refine lv_iconst (v := (1 : Int32)) hx hb dX6_predictColours_175 (by decide) ?_
              refine lv_isub hx hb dX6_predictColours_176 ?_
              obtain ⟨x75, ex75, hF⟩ := ltt_some hF
              refine lv_topi (fun zx75 ezx75 => ?_)
              obtain rfl : x75 = zx75 := ex75.trans ezx75.symm
              refine lv_goto (tgt := 184) hx hb dX6_predictColours_177 (by decide) ?_
              obtain rfl := Option.some.inj hF
              exact J72 _ _ _ hP hD hS (lv_sub hl [0, 1, 2, 3, 4, 5, 6, 7, 8, 9, 10, 11, 12, 13, 14, 15, 16] rfl)
          · rw [if_neg c70] at hF
            refine lv_iconst (v := (0 : Int32)) hx hb dX6_predictColours_160 (by decide) ?_
            refine lv_goto (tgt := 184) hx hb dX6_predictColours_161 (by decide) ?_
            obtain rfl := Option.some.inj hF
            exact J24 _ _ _ hP hD hS (lv_sub hl [0, 1, 2, 3, 4, 5, 6, 7, 8, 9, 10, 11, 12, 13, 14, 15, 16] rfl)
        clear hF
        have hF := hy22
        clear hy22
        refine lv_if_ge (tgt := 133) hx hb dX6_predictColours_126 (by decide) (fun c76 => ?_) (fun c76 => ?_)
        · rw [if_pos c76] at hF
          refine lv_iload hx hb dX6_predictColours_133 (lv_at hl 2 rfl) ?_
          refine lv_iload hx hb dX6_predictColours_135 (lv_at hl 7 rfl) ?_
          obtain ⟨y77, hy77, hF⟩ := bnd_some hF
          have J77 : ∀ (H : Heap) (locs : List Loc) (ls : Array Slot), va_P D classes (wld ct ad G s9.2) H → va_D A (wld ct ad G s9.2) → va_S A s.heap H locs → lv_has ls 21 [(15, .int y21), (14, .int y20), (13, .int x19), (12, .int x16), (11, .int s9.1), (10, .int x7), (9, .int x6), (8, .int x5), (7, .int x3), (0, .ref (ad a)), (1, va_re ad p0), (2, .int p1), (3, .int p2), (4, .int p3), (5, va_re ad p4), (6, .int p5)] → W p l e (headSpec wsX6_predictColours ({ frames := 0, cells := 0, slots := 0, locals := 0 })).room s m ([.ref (ad a), va_re ad p0, .int p1, .int p2, .int p3, va_re ad p4, .int p5] : List Value).toArray below meth c H locs 0 0 (MQ below (va_Qv (fun (_ : Unit) => True) (fun _ t => kE D ct ad G A y t) A) ([.ref (ad a), va_re ad p0, .int p1, .int p2, .int p3, va_re ad p4, .int p5] : List Value).toArray s 0 0 A) (F0 m 149 ls [.int y77]) := by
            intro H locs ls hP hD hS hl
            obtain rfl := Option.some.inj hF
            exact J22 _ _ _ hP hD hS (lv_sub hl [0, 1, 2, 3, 4, 5, 6, 7, 8, 9, 10, 11, 12, 13, 14, 15] rfl)
          clear hF
          have hF := hy77
          clear hy77
          refine lv_icmp_lt (tgt := 147) hx hb dX6_predictColours_137 (by decide) (fun c78 => ?_) (fun c78 => ?_)
          · rw [if_pos c78] at hF
            refine lv_iload hx hb dX6_predictColours_147 (lv_at hl 2 rfl) ?_
            obtain rfl := Option.some.inj hF
            exact J77 _ _ _ hP hD hS (lv_sub hl [0, 1, 2, 3, 4, 5, 6, 7, 8, 9, 10, 11, 12, 13, 14, 15] rfl)
          · rw [if_neg c78] at hF
            refine lv_iload hx hb dX6_predictColours_140 (lv_at hl 7 rfl) ?_
            refine lv_iconst (v := (1 : Int32)) hx hb dX6_predictColours_142 (by decide) ?_
            refine lv_isub hx hb dX6_predictColours_143 ?_
            obtain ⟨x79, ex79, hF⟩ := ltt_some hF
            refine lv_topi (fun zx79 ezx79 => ?_)
            obtain rfl : x79 = zx79 := ex79.trans ezx79.symm
            refine lv_goto (tgt := 149) hx hb dX6_predictColours_144 (by decide) ?_
            obtain rfl := Option.some.inj hF
            exact J77 _ _ _ hP hD hS (lv_sub hl [0, 1, 2, 3, 4, 5, 6, 7, 8, 9, 10, 11, 12, 13, 14, 15] rfl)
        · rw [if_neg c76] at hF
          refine lv_iconst (v := (0 : Int32)) hx hb dX6_predictColours_129 (by decide) ?_
          refine lv_goto (tgt := 149) hx hb dX6_predictColours_130 (by decide) ?_
          obtain rfl := Option.some.inj hF
          exact J22 _ _ _ hP hD hS (lv_sub hl [0, 1, 2, 3, 4, 5, 6, 7, 8, 9, 10, 11, 12, 13, 14, 15] rfl)
      clear hF
      have hF := hy21
      clear hy21
      refine lv_icmp_ge (tgt := 102) hx hb dX6_predictColours_95 (by decide) (fun c80 => ?_) (fun c80 => ?_)
      · rw [if_pos c80] at hF
        refine lv_iload hx hb dX6_predictColours_102 (lv_at hl 2 rfl) ?_
        refine lv_iload hx hb dX6_predictColours_104 (lv_at hl 7 rfl) ?_
        refine lv_iconst (v := (1 : Int32)) hx hb dX6_predictColours_106 (by decide) ?_
        refine lv_isub hx hb dX6_predictColours_107 ?_
        obtain ⟨x81, ex81, hF⟩ := ltt_some hF
        refine lv_topi (fun zx81 ezx81 => ?_)
        obtain rfl : x81 = zx81 := ex81.trans ezx81.symm
        obtain ⟨y82, hy82, hF⟩ := bnd_some hF
        have J82 : ∀ (H : Heap) (locs : List Loc) (ls : Array Slot), va_P D classes (wld ct ad G s9.2) H → va_D A (wld ct ad G s9.2) → va_S A s.heap H locs → lv_has ls 21 [(14, .int y20), (13, .int x19), (12, .int x16), (11, .int s9.1), (10, .int x7), (9, .int x6), (8, .int x5), (7, .int x3), (0, .ref (ad a)), (1, va_re ad p0), (2, .int p1), (3, .int p2), (4, .int p3), (5, va_re ad p4), (6, .int p5)] → W p l e (headSpec wsX6_predictColours ({ frames := 0, cells := 0, slots := 0, locals := 0 })).room s m ([.ref (ad a), va_re ad p0, .int p1, .int p2, .int p3, va_re ad p4, .int p5] : List Value).toArray below meth c H locs 0 0 (MQ below (va_Qv (fun (_ : Unit) => True) (fun _ t => kE D ct ad G A y t) A) ([.ref (ad a), va_re ad p0, .int p1, .int p2, .int p3, va_re ad p4, .int p5] : List Value).toArray s 0 0 A) (F0 m 122 ls [.int y82]) := by
          intro H locs ls hP hD hS hl
          obtain rfl := Option.some.inj hF
          exact J21 _ _ _ hP hD hS (lv_sub hl [0, 1, 2, 3, 4, 5, 6, 7, 8, 9, 10, 11, 12, 13, 14] rfl)
        clear hF
        have hF := hy82
        clear hy82
        refine lv_icmp_lt (tgt := 118) hx hb dX6_predictColours_108 (by decide) (fun c83 => ?_) (fun c83 => ?_)
        · rw [if_pos c83] at hF
          refine lv_iload hx hb dX6_predictColours_118 (lv_at hl 2 rfl) ?_
          refine lv_iconst (v := (1 : Int32)) hx hb dX6_predictColours_120 (by decide) ?_
          refine lv_iadd hx hb dX6_predictColours_121 ?_
          obtain ⟨x84, ex84, hF⟩ := ltt_some hF
          refine lv_topi (fun zx84 ezx84 => ?_)
          obtain rfl : x84 = zx84 := ex84.trans ezx84.symm
          obtain rfl := Option.some.inj hF
          exact J82 _ _ _ hP hD hS (lv_sub hl [0, 1, 2, 3, 4, 5, 6, 7, 8, 9, 10, 11, 12, 13, 14] rfl)
        · rw [if_neg c83] at hF
          refine lv_iload hx hb dX6_predictColours_111 (lv_at hl 7 rfl) ?_
          refine lv_iconst (v := (1 : Int32)) hx hb dX6_predictColours_113 (by decide) ?_
          refine lv_isub hx hb dX6_predictColours_114 ?_
          obtain ⟨x85, ex85, hF⟩ := ltt_some hF
          refine lv_topi (fun zx85 ezx85 => ?_)
          obtain rfl : x85 = zx85 := ex85.trans ezx85.symm
          refine lv_goto (tgt := 122) hx hb dX6_predictColours_115 (by decide) ?_
          obtain rfl := Option.some.inj hF
          exact J82 _ _ _ hP hD hS (lv_sub hl [0, 1, 2, 3, 4, 5, 6, 7, 8, 9, 10, 11, 12, 13, 14] rfl)
      · rw [if_neg c80] at hF
        refine lv_iconst (v := (0 : Int32)) hx hb dX6_predictColours_98 (by decide) ?_
        refine lv_goto (tgt := 122) hx hb dX6_predictColours_99 (by decide) ?_
        obtain rfl := Option.some.inj hF
        exact J21 _ _ _ hP hD hS (lv_sub hl [0, 1, 2, 3, 4, 5, 6, 7, 8, 9, 10, 11, 12, 13, 14] rfl)
    clear hF
    have hF := hy20
    clear hy20
    refine lv_if_ge (tgt := 74) hx hb dX6_predictColours_67 (by decide) (fun c86 => ?_) (fun c86 => ?_)
    · rw [if_pos c86] at hF
      refine lv_iload hx hb dX6_predictColours_74 (lv_at hl 1 rfl) ?_
      refine lv_iload hx hb dX6_predictColours_76 (lv_at hl 6 rfl) ?_
      obtain ⟨y87, hy87, hF⟩ := bnd_some hF
      have J87 : ∀ (H : Heap) (locs : List Loc) (ls : Array Slot), va_P D classes (wld ct ad G s9.2) H → va_D A (wld ct ad G s9.2) → va_S A s.heap H locs → lv_has ls 21 [(13, .int x19), (12, .int x16), (11, .int s9.1), (10, .int x7), (9, .int x6), (8, .int x5), (7, .int x3), (0, .ref (ad a)), (1, va_re ad p0), (2, .int p1), (3, .int p2), (4, .int p3), (5, va_re ad p4), (6, .int p5)] → W p l e (headSpec wsX6_predictColours ({ frames := 0, cells := 0, slots := 0, locals := 0 })).room s m ([.ref (ad a), va_re ad p0, .int p1, .int p2, .int p3, va_re ad p4, .int p5] : List Value).toArray below meth c H locs 0 0 (MQ below (va_Qv (fun (_ : Unit) => True) (fun _ t => kE D ct ad G A y t) A) ([.ref (ad a), va_re ad p0, .int p1, .int p2, .int p3, va_re ad p4, .int p5] : List Value).toArray s 0 0 A) (F0 m 90 ls [.int y87]) := by
        intro H locs ls hP hD hS hl
        obtain rfl := Option.some.inj hF
        exact J20 _ _ _ hP hD hS (lv_sub hl [0, 1, 2, 3, 4, 5, 6, 7, 8, 9, 10, 11, 12, 13] rfl)
      clear hF
      have hF := hy87
      clear hy87
      refine lv_icmp_lt (tgt := 88) hx hb dX6_predictColours_78 (by decide) (fun c88 => ?_) (fun c88 => ?_)
      · rw [if_pos c88] at hF
        refine lv_iload hx hb dX6_predictColours_88 (lv_at hl 1 rfl) ?_
        obtain rfl := Option.some.inj hF
        exact J87 _ _ _ hP hD hS (lv_sub hl [0, 1, 2, 3, 4, 5, 6, 7, 8, 9, 10, 11, 12, 13] rfl)
      · rw [if_neg c88] at hF
        refine lv_iload hx hb dX6_predictColours_81 (lv_at hl 6 rfl) ?_
        refine lv_iconst (v := (1 : Int32)) hx hb dX6_predictColours_83 (by decide) ?_
        refine lv_isub hx hb dX6_predictColours_84 ?_
        obtain ⟨x89, ex89, hF⟩ := ltt_some hF
        refine lv_topi (fun zx89 ezx89 => ?_)
        obtain rfl : x89 = zx89 := ex89.trans ezx89.symm
        refine lv_goto (tgt := 90) hx hb dX6_predictColours_85 (by decide) ?_
        obtain rfl := Option.some.inj hF
        exact J87 _ _ _ hP hD hS (lv_sub hl [0, 1, 2, 3, 4, 5, 6, 7, 8, 9, 10, 11, 12, 13] rfl)
    · rw [if_neg c86] at hF
      refine lv_iconst (v := (0 : Int32)) hx hb dX6_predictColours_70 (by decide) ?_
      refine lv_goto (tgt := 90) hx hb dX6_predictColours_71 (by decide) ?_
      obtain rfl := Option.some.inj hF
      exact J20 _ _ _ hP hD hS (lv_sub hl [0, 1, 2, 3, 4, 5, 6, 7, 8, 9, 10, 11, 12, 13] rfl)
theorem dX6_roundingOf_0 : decode cX6_roundingOf 0 = .ok (.iconst 1, 1) := by decide +kernel
theorem dX6_roundingOf_1 : decode cX6_roundingOf 1 = .ok (.bipush 15, 2) := by decide +kernel
theorem dX6_roundingOf_3 : decode cX6_roundingOf 3 = .ok (.iload_n 0, 1) := by decide +kernel
theorem dX6_roundingOf_4 : decode cX6_roundingOf 4 = .ok (.bipush 6, 2) := by decide +kernel
theorem dX6_roundingOf_6 : decode cX6_roundingOf 6 = .ok (.idiv, 1) := by decide +kernel
theorem dX6_roundingOf_7 : decode cX6_roundingOf 7 = .ok (.iadd, 1) := by decide +kernel
theorem dX6_roundingOf_8 : decode cX6_roundingOf 8 = .ok (.ishl, 1) := by decide +kernel
theorem dX6_roundingOf_9 : decode cX6_roundingOf 9 = .ok (.iload_n 1, 1) := by decide +kernel
theorem dX6_roundingOf_10 : decode cX6_roundingOf 10 = .ok (.ifCond .eq 7, 3) := by decide +kernel
theorem dX6_roundingOf_13 : decode cX6_roundingOf 13 = .ok (.iconst 3, 1) := by decide +kernel
theorem dX6_roundingOf_14 : decode cX6_roundingOf 14 = .ok (.goto 5, 3) := by decide +kernel
theorem dX6_roundingOf_17 : decode cX6_roundingOf 17 = .ok (.bipush 6, 2) := by decide +kernel
theorem dX6_roundingOf_19 : decode cX6_roundingOf 19 = .ok (.idiv, 1) := by decide +kernel
theorem dX6_roundingOf_20 : decode cX6_roundingOf 20 = .ok (.ireturn, 1) := by decide +kernel
def FX6_roundingOf (G : GG) (M : DD) (p0 : Int32) (p1 : Int32) : Option (DD × Int32) :=
  ltt (p0 / ((6 : Int32))) fun x1 =>
  ltt ((((15 : Int32)) + x1)) fun x2 =>
  ltt ((((1 : Int32)) <<< (x2 &&& 31))) fun x3 =>
  bnd (if p1 = ((0 : Int32)) then (some ((6 : Int32))) else
  (some ((3 : Int32)))) fun (y4 : Int32) =>
  chk (¬ y4 = 0) <|
  ltt (x3 / y4) fun x5 =>
  some (M, x5)
set_option maxHeartbeats 4000000 in
set_option maxRecDepth 100000 in
theorem kX6_roundingOf (l : Launch) (D : va_G) (ct : CT) (ad : Nat → Nat) (Z : Nat → Nat) (G : GG) (M : DD) (sz : Nat) (p0 : Int32) (p1 : Int32) (y : DD × Int32) (hF : FX6_roundingOf G M p0 p1 = some y) : Met l yX6_roundingOf wsX6_roundingOf ({ frames := 0, cells := 0, slots := 0, locals := 0 }) (va_Pc [.int p0, .int p1] (kB D ct ad Z G M sz)) (va_Qi (fun (q : Int32) (_ : Unit) => q = y.2) (fun _ t => kE D ct ad G (wA ad G sz) y.1 t) (wA ad G sz)) 0 0 (wA ad G sz) := by
  refine Met.ofW (cc := cX6_roundingOf) (maxL := 2) (ret := (some .int)) (by decide) rfl ?_
  intro p e s m args below meth c s₁ B hml hv
  obtain ⟨rfl, hsz, hP, hK, hD0, hZ, hN⟩ := hv
  have hx := B.exec
  have hb := B.bytes
  have hr := B.returns
  have hts := atoms_spec (ws := wsX6_roundingOf) B.pre
  have hown : s.vm.findClass RX6 = some m.cls := findClass_of_methodNamed B.named
  have hlocks := B.notSynchronized
  subst hsz
  have hD := wD_self (sz := s.heap.size) hD0
  have hA9 : ∀ q, s.heap.size ≤ q → wA ad G s.heap.size q := fun q h => Or.inr h
  generalize hAe : wA ad G s.heap.size = A at hD hA9 hZ ⊢
  have hS : va_S A s.heap s.heap [] := va_S.rf
  have hl := lv_entry ([.int p0, .int p1]) (n := 2) (Nat.le_of_ble_eq_true rfl)
  rw [lg_entry_eq]
  generalize (lg_sl ([.int p0, .int p1]) ++ List.replicate (2 - (lg_sl ([.int p0, .int p1])).length) Slot.unset).toArray = ls at hl ⊢
  have hl : lv_has ls 2 [(0, .int p0), (1, .int p1)] := hl
  unfold FX6_roundingOf at hF
  refine lv_iconst (v := (1 : Int32)) hx hb dX6_roundingOf_0 (by decide) ?_
  refine lv_bipush (v := (15 : Int32)) hx hb dX6_roundingOf_1 (by decide) ?_
  refine lv_iload_n hx hb dX6_roundingOf_3 rfl (lv_at hl 0 rfl) ?_
  refine lv_bipush (v := (6 : Int32)) hx hb dX6_roundingOf_4 (by decide) ?_
  refine lv_idiv hx hb dX6_roundingOf_6 (by decide) ?_
  obtain ⟨x1, ex1, hF⟩ := ltt_some hF
  refine lv_topi (fun zx1 ezx1 => ?_)
  obtain rfl : x1 = zx1 := ex1.trans ezx1.symm
  refine lv_iadd hx hb dX6_roundingOf_7 ?_
  obtain ⟨x2, ex2, hF⟩ := ltt_some hF
  refine lv_topi (fun zx2 ezx2 => ?_)
  obtain rfl : x2 = zx2 := ex2.trans ezx2.symm
  refine lv_ishl hx hb dX6_roundingOf_8 ?_
  obtain ⟨x3, ex3, hF⟩ := ltt_some hF
  refine lv_topi (fun zx3 ezx3 => ?_)
  obtain rfl : x3 = zx3 := ex3.trans ezx3.symm
  refine lv_iload_n hx hb dX6_roundingOf_9 rfl (lv_at hl 1 rfl) ?_
  obtain ⟨y4, hy4, hF⟩ := bnd_some hF
  have J4 : ∀ (H : Heap) (locs : List Loc) (ls : Array Slot), va_P D classes (wld ct ad G M) H → va_D A (wld ct ad G M) → va_S A s.heap H locs → lv_has ls 2 [(0, .int p0), (1, .int p1)] → W p l e (headSpec wsX6_roundingOf ({ frames := 0, cells := 0, slots := 0, locals := 0 })).room s m ([.int p0, .int p1] : List Value).toArray below meth c H locs 0 0 (MQ below (va_Qi (fun (q : Int32) (_ : Unit) => q = y.2) (fun _ t => kE D ct ad G A y.1 t) A) ([.int p0, .int p1] : List Value).toArray s 0 0 A) (F0 m 19 ls [.int y4, .int x3]) := by
    intro H locs ls hP hD hS hl
    obtain ⟨hne, hF⟩ := chk_some hF
    refine lv_idiv hx hb dX6_roundingOf_19 hne ?_
    obtain ⟨x5, ex5, hF⟩ := ltt_some hF
    refine lv_topi (fun zx5 ezx5 => ?_)
    obtain rfl : x5 = zx5 := ex5.trans ezx5.symm
    obtain rfl := Option.some.inj hF
    exact W.iret (v := x5) hx hb hr (fun t ht hW => ⟨⟨_, (), rfl, rfl, ⟨by rw [ht]; exact hP, va_K.moved hW.alike hK, hD⟩⟩, hS.F ht⟩) hS.2.2 dX6_roundingOf_20
  clear hF
  have hF := hy4
  clear hy4
  refine lv_if_eq (tgt := 17) hx hb dX6_roundingOf_10 (by decide) (fun c6 => ?_) (fun c6 => ?_)
  · rw [if_pos c6] at hF
    refine lv_bipush (v := (6 : Int32)) hx hb dX6_roundingOf_17 (by decide) ?_
    obtain rfl := Option.some.inj hF
    exact J4 _ _ _ hP hD hS (lv_sub hl [0, 1] rfl)
  · rw [if_neg c6] at hF
    refine lv_iconst (v := (3 : Int32)) hx hb dX6_roundingOf_13 (by decide) ?_
    refine lv_goto (tgt := 19) hx hb dX6_roundingOf_14 (by decide) ?_
    obtain rfl := Option.some.inj hF
    exact J4 _ _ _ hP hD hS (lv_sub hl [0, 1] rfl)
theorem dX6_sumAround_0 : decode cX6_sumAround 0 = .ok (.iconst 0, 1) := by decide +kernel
theorem dX6_sumAround_1 : decode cX6_sumAround 1 = .ok (.istore_n 3, 1) := by decide +kernel
theorem dX6_sumAround_2 : decode cX6_sumAround 2 = .ok (.iload_n 1, 1) := by decide +kernel
theorem dX6_sumAround_3 : decode cX6_sumAround 3 = .ok (.istore 4, 2) := by decide +kernel
theorem dX6_sumAround_5 : decode cX6_sumAround 5 = .ok (.iload 4, 2) := by decide +kernel
theorem dX6_sumAround_7 : decode cX6_sumAround 7 = .ok (.iload_n 1, 1) := by decide +kernel
theorem dX6_sumAround_8 : decode cX6_sumAround 8 = .ok (.iload_n 2, 1) := by decide +kernel
theorem dX6_sumAround_9 : decode cX6_sumAround 9 = .ok (.iadd, 1) := by decide +kernel
theorem dX6_sumAround_10 : decode cX6_sumAround 10 = .ok (.if_icmp .ge 19, 3) := by decide +kernel
theorem dX6_sumAround_13 : decode cX6_sumAround 13 = .ok (.iload_n 3, 1) := by decide +kernel
theorem dX6_sumAround_14 : decode cX6_sumAround 14 = .ok (.aload_n 0, 1) := by decide +kernel
theorem dX6_sumAround_15 : decode cX6_sumAround 15 = .ok (.getfield 36, 3) := by decide +kernel
theorem dX6_sumAround_18 : decode cX6_sumAround 18 = .ok (.iload 4, 2) := by decide +kernel
theorem dX6_sumAround_20 : decode cX6_sumAround 20 = .ok (.iaload, 1) := by decide +kernel
theorem dX6_sumAround_21 : decode cX6_sumAround 21 = .ok (.iadd, 1) := by decide +kernel
theorem dX6_sumAround_22 : decode cX6_sumAround 22 = .ok (.istore_n 3, 1) := by decide +kernel
theorem dX6_sumAround_23 : decode cX6_sumAround 23 = .ok (.iinc 4 1, 3) := by decide +kernel
theorem dX6_sumAround_26 : decode cX6_sumAround 26 = .ok (.goto (-21), 3) := by decide +kernel
theorem dX6_sumAround_29 : decode cX6_sumAround 29 = .ok (.iload_n 3, 1) := by decide +kernel
theorem dX6_sumAround_30 : decode cX6_sumAround 30 = .ok (.ireturn, 1) := by decide +kernel
def FX6_sumAround (G : GG) (M : DD) (a : Nat) (p0 : Int32) (p1 : Int32) : Option (DD × Int32) :=
  bnd (itr (fun (s2 : Int32 × Int32) => ((ltt ((p0 + p1)) fun x5 =>
  if x5 ≤ s2.2 then (some (.inr (s2.1, s2.2))) else
  (dr G 13 ((M.2 a 8)) fun b7 =>
  chk (¬ (s2.2 < 0 ∨ G.2.2 b7 ≤ s2.2.toNatClampNeg)) <|
  ltt (M.1 b7 s2.2.toNatClampNeg) fun x8 =>
  ltt ((s2.1 + x8)) fun x9 =>
  ltt (s2.2 + (1 : Int32)) fun x10 =>
  some (.inl (x9, x10)))) : Option ((Int32 × Int32) ⊕ (Int32 × Int32)))) 1000000 ((0 : Int32), p0)) fun (y1 : Int32 × Int32) =>
  some (M, y1.1)
set_option maxHeartbeats 4000000 in
set_option maxRecDepth 100000 in
theorem kX6_sumAround (l : Launch) (D : va_G) (ct : CT) (ad : Nat → Nat) (Z : Nat → Nat) (G : GG) (M : DD) (sz : Nat) (a : Nat) (p0 : Int32) (p1 : Int32) (y : DD × Int32) (hc : a < G.1) (hk : G.2.1 a = 6) (hF : FX6_sumAround G M a p0 p1 = some y) : Met l yX6_sumAround wsX6_sumAround ({ frames := 0, cells := 0, slots := 0, locals := 0 }) (va_Pc [.ref (ad a), .int p0, .int p1] (kB D ct ad Z G M sz)) (va_Qi (fun (q : Int32) (_ : Unit) => q = y.2) (fun _ t => kE D ct ad G (wA ad G sz) y.1 t) (wA ad G sz)) 0 0 (wA ad G sz) := by
  refine Met.ofW (cc := cX6_sumAround) (maxL := 5) (ret := (some .int)) (by decide) rfl ?_
  intro p e s m args below meth c s₁ B hml hv
  obtain ⟨rfl, hsz, hP, hK, hD0, hZ, hN⟩ := hv
  have hx := B.exec
  have hb := B.bytes
  have hr := B.returns
  have hts := atoms_spec (ws := wsX6_sumAround) B.pre
  have hown : s.vm.findClass RX6 = some m.cls := findClass_of_methodNamed B.named
  have hlocks := B.notSynchronized
  subst hsz
  have hD := wD_self (sz := s.heap.size) hD0
  have hA9 : ∀ q, s.heap.size ≤ q → wA ad G s.heap.size q := fun q h => Or.inr h
  generalize hAe : wA ad G s.heap.size = A at hD hA9 hZ ⊢
  have hS : va_S A s.heap s.heap [] := va_S.rf
  have hl := lv_entry ([.ref (ad a), .int p0, .int p1]) (n := 5) (Nat.le_of_ble_eq_true rfl)
  rw [lg_entry_eq]
  generalize (lg_sl ([.ref (ad a), .int p0, .int p1]) ++ List.replicate (5 - (lg_sl ([.ref (ad a), .int p0, .int p1])).length) Slot.unset).toArray = ls at hl ⊢
  have hl : lv_has ls 5 [(0, .ref (ad a)), (1, .int p0), (2, .int p1)] := hl
  unfold FX6_sumAround at hF
  refine lv_iconst (v := (0 : Int32)) hx hb dX6_sumAround_0 (by decide) ?_
  refine lv_istore_n (lv' := [(3, .int (0 : Int32)), (0, .ref (ad a)), (1, .int p0), (2, .int p1)]) hx hb dX6_sumAround_1 rfl hl (by decide) rfl (fun ls hl => ?_)
  refine lv_iload_n hx hb dX6_sumAround_2 rfl (lv_at hl 2 rfl) ?_
  refine lv_istore (lv' := [(4, .int p0), (3, .int (0 : Int32)), (0, .ref (ad a)), (1, .int p0), (2, .int p1)]) hx hb dX6_sumAround_3 hl (by decide) rfl (fun ls hl => ?_)
  obtain ⟨y1, hy1, hF⟩ := bnd_some hF
  have K1 : ∀ (H : Heap) (locs : List Loc) (ls : Array Slot), va_P D classes (wld ct ad G M) H → va_D A (wld ct ad G M) → va_S A s.heap H locs → lv_has ls 5 [(4, .int y1.2), (3, .int y1.1), (0, .ref (ad a)), (1, .int p0), (2, .int p1)] → W p l e (headSpec wsX6_sumAround ({ frames := 0, cells := 0, slots := 0, locals := 0 })).room s m ([.ref (ad a), .int p0, .int p1] : List Value).toArray below meth c H locs 0 0 (MQ below (va_Qi (fun (q : Int32) (_ : Unit) => q = y.2) (fun _ t => kE D ct ad G A y.1 t) A) ([.ref (ad a), .int p0, .int p1] : List Value).toArray s 0 0 A) (F0 m 29 ls []) := by
    intro H locs ls hP hD hS hl
    refine lv_iload_n hx hb dX6_sumAround_29 rfl (lv_at hl 1 rfl) ?_
    obtain rfl := Option.some.inj hF
    exact W.iret (v := y1.1) hx hb hr (fun t ht hW => ⟨⟨_, (), rfl, rfl, ⟨by rw [ht]; exact hP, va_K.moved hW.alike hK, hD⟩⟩, hS.F ht⟩) hS.2.2 dX6_sumAround_30
  clear hF
  refine itr_rule (fun (s2 : Int32 × Int32) => ∀ (H : Heap) (locs : List Loc) (ls : Array Slot), va_P D classes (wld ct ad G M) H → va_D A (wld ct ad G M) → va_S A s.heap H locs → lv_has ls 5 [(4, .int s2.2), (3, .int s2.1), (0, .ref (ad a)), (1, .int p0), (2, .int p1)] → W p l e (headSpec wsX6_sumAround ({ frames := 0, cells := 0, slots := 0, locals := 0 })).room s m ([.ref (ad a), .int p0, .int p1] : List Value).toArray below meth c H locs 0 0 (MQ below (va_Qi (fun (q : Int32) (_ : Unit) => q = y.2) (fun _ t => kE D ct ad G A y.1 t) A) ([.ref (ad a), .int p0, .int p1] : List Value).toArray s 0 0 A) (F0 m 5 ls [])) ?_ _ _ hy1 _ _ _ hP hD hS (lv_sub hl [0, 1, 2, 3, 4] rfl)
  rintro s2 ⟨z4, hF, hwz4⟩ H locs ls hP hD hS hl
  try dsimp only at hF
  refine lv_iload hx hb dX6_sumAround_5 (lv_at hl 0 rfl) ?_
  refine lv_iload_n hx hb dX6_sumAround_7 rfl (lv_at hl 3 rfl) ?_
  refine lv_iload_n hx hb dX6_sumAround_8 rfl (lv_at hl 4 rfl) ?_
  refine lv_iadd hx hb dX6_sumAround_9 ?_
  obtain ⟨x5, ex5, hF⟩ := ltt_some hF
  refine lv_topi (fun zx5 ezx5 => ?_)
  obtain rfl : x5 = zx5 := ex5.trans ezx5.symm
  refine lv_icmp_ge (tgt := 29) hx hb dX6_sumAround_10 (by decide) (fun c6 => ?_) (fun c6 => ?_)
  · rw [if_pos c6] at hF
    obtain rfl := Option.some.inj hF
    subst hwz4
    exact K1 _ _ _ hP hD hS (lv_sub hl [0, 1, 2, 3, 4] rfl)
  · rw [if_neg c6] at hF
    refine lv_iload_n hx hb dX6_sumAround_13 rfl (lv_at hl 1 rfl) ?_
    refine lv_aload_n hx hb dX6_sumAround_14 rfl (lv_at hl 2 rfl) ?_
    refine va_get (D := D) (ci := 6) (v := va_re ad (M.2 a 8)) (C := RX6) (T := TX6) (N := 14) hx hb hts (by decide +kernel) hown hK hP a (wld_o ct ad G M hc hk (by decide)) rfl 8 (by decide) (hts (.fieldLink RX6 36 "VideoSuite$Samples" "around" "[I") (by decide +kernel)) (fun _ h9 => h9) rfl dX6_sumAround_15 ?_
    refine lv_iload hx hb dX6_sumAround_18 (lv_at hl 0 rfl) ?_
    obtain ⟨b7, ho7, hc7, hk7, hF⟩ := dr_some hF
    refine W_st (st' := [.int s2.2, .ref (ad b7), .int s2.1]) (by rw [va_some ho7]) ?_
    obtain ⟨hvc, hF⟩ := chk_some hF
    refine va_iald hx hb hK hP b7 1 (wld_i ct ad G M hc7 hk7) rfl hvc dX6_sumAround_20 ?_
    obtain ⟨x8, ex8, hF⟩ := ltt_some hF
    refine lv_topi (fun zx8 ezx8 => ?_)
    obtain rfl : x8 = zx8 := ex8.trans ezx8.symm
    refine lv_iadd hx hb dX6_sumAround_21 ?_
    obtain ⟨x9, ex9, hF⟩ := ltt_some hF
    refine lv_topi (fun zx9 ezx9 => ?_)
    obtain rfl : x9 = zx9 := ex9.trans ezx9.symm
    refine lv_istore_n (lv' := [(3, .int x9), (4, .int s2.2), (0, .ref (ad a)), (1, .int p0), (2, .int p1)]) hx hb dX6_sumAround_22 rfl hl (by decide) rfl (fun ls hl => ?_)
    obtain ⟨x10, ex10, hF⟩ := ltt_some hF
    refine lv_iinc (v := x10) (lv' := [(4, .int x10), (3, .int x9), (0, .ref (ad a)), (1, .int p0), (2, .int p1)]) hx hb dX6_sumAround_23 hl (k := 1) rfl (by rw [ex10]; rfl) (by decide) rfl (fun ls hl => ?_)
    refine lv_goto (tgt := 5) hx hb dX6_sumAround_26 (by decide) ?_
    obtain rfl := Option.some.inj hF
    exact hwz4 _ _ _ hP hD hS (lv_sub hl [0, 1, 2, 3, 4] rfl)
