theorem dX6_colourAt_0 : decode cX6_colourAt 0 = .ok (.bipush 8, 2) := by decide +kernel
theorem dX6_colourAt_2 : decode cX6_colourAt 2 = .ok (.iload_n 1, 1) := by decide +kernel
theorem dX6_colourAt_3 : decode cX6_colourAt 3 = .ok (.aload_n 0, 1) := by decide +kernel
theorem dX6_colourAt_4 : decode cX6_colourAt 4 = .ok (.getfield 83, 3) := by decide +kernel
theorem dX6_colourAt_7 : decode cX6_colourAt 7 = .ok (.idiv, 1) := by decide +kernel
theorem dX6_colourAt_8 : decode cX6_colourAt 8 = .ok (.imul, 1) := by decide +kernel
theorem dX6_colourAt_9 : decode cX6_colourAt 9 = .ok (.iload_n 3, 1) := by decide +kernel
theorem dX6_colourAt_10 : decode cX6_colourAt 10 = .ok (.iadd, 1) := by decide +kernel
theorem dX6_colourAt_11 : decode cX6_colourAt 11 = .ok (.bipush 8, 2) := by decide +kernel
theorem dX6_colourAt_13 : decode cX6_colourAt 13 = .ok (.imul, 1) := by decide +kernel
theorem dX6_colourAt_14 : decode cX6_colourAt 14 = .ok (.aload_n 0, 1) := by decide +kernel
theorem dX6_colourAt_15 : decode cX6_colourAt 15 = .ok (.getfield 83, 3) := by decide +kernel
theorem dX6_colourAt_18 : decode cX6_colourAt 18 = .ok (.imul, 1) := by decide +kernel
theorem dX6_colourAt_19 : decode cX6_colourAt 19 = .ok (.bipush 8, 2) := by decide +kernel
theorem dX6_colourAt_21 : decode cX6_colourAt 21 = .ok (.iload_n 1, 1) := by decide +kernel
theorem dX6_colourAt_22 : decode cX6_colourAt 22 = .ok (.aload_n 0, 1) := by decide +kernel
theorem dX6_colourAt_23 : decode cX6_colourAt 23 = .ok (.getfield 83, 3) := by decide +kernel
theorem dX6_colourAt_26 : decode cX6_colourAt 26 = .ok (.irem, 1) := by decide +kernel
theorem dX6_colourAt_27 : decode cX6_colourAt 27 = .ok (.imul, 1) := by decide +kernel
theorem dX6_colourAt_28 : decode cX6_colourAt 28 = .ok (.iadd, 1) := by decide +kernel
theorem dX6_colourAt_29 : decode cX6_colourAt 29 = .ok (.iload_n 2, 1) := by decide +kernel
theorem dX6_colourAt_30 : decode cX6_colourAt 30 = .ok (.iadd, 1) := by decide +kernel
theorem dX6_colourAt_31 : decode cX6_colourAt 31 = .ok (.ireturn, 1) := by decide +kernel
def FX6_colourAt (G : GG) (M : DD) (p0 : Option Nat) (p1 : Int32) (p2 : Int32) (p3 : Int32) : Option (DD × Int32) :=
  dr G 4 p0 fun b1 =>
  ltt (M.1 b1 1) fun x2 =>
  chk (¬ x2 = 0) <|
  ltt (p1 / x2) fun x3 =>
  ltt ((((8 : Int32)) * x3)) fun x4 =>
  ltt ((x4 + p3)) fun x5 =>
  ltt ((x5 * ((8 : Int32)))) fun x6 =>
  ltt (M.1 b1 1) fun x7 =>
  ltt ((x6 * x7)) fun x8 =>
  ltt (M.1 b1 1) fun x9 =>
  chk (¬ x9 = 0) <|
  ltt (p1 - p1 / x9 * x9) fun x10 =>
  ltt ((((8 : Int32)) * x10)) fun x11 =>
  ltt ((x8 + x11)) fun x12 =>
  ltt ((x12 + p2)) fun x13 =>
  some (M, x13)
set_option maxHeartbeats 4000000 in
set_option maxRecDepth 100000 in
theorem kX6_colourAt (l : Launch) (D : va_G) (ct : CT) (ad : Nat → Nat) (Z : Nat → Nat) (G : GG) (M : DD) (sz : Nat) (p0 : Option Nat) (p1 : Int32) (p2 : Int32) (p3 : Int32) (y : DD × Int32) (hF : FX6_colourAt G M p0 p1 p2 p3 = some y) : Met l yX6_colourAt wuX6_colourAt ({ frames := 0, cells := 0, slots := 0, locals := 0 }) (va_Pc [va_re ad p0, .int p1, .int p2, .int p3] (kB D ct ad Z G M sz)) (va_Qi (fun (q : Int32) (_ : Unit) => q = y.2) (fun _ t => kE D ct ad G (wA ad G sz) y.1 t) (wA ad G sz)) 0 0 (wA ad G sz) := by
  refine Met.ofW (cc := cX6_colourAt) (maxL := 4) (ret := (some .int)) (by decide) rfl ?_
  intro p e s m args below meth c s₁ B hml hv
  obtain ⟨rfl, hsz, hP, hK, hD0, hZ, hN⟩ := hv
  have hx := B.exec
  have hb := B.bytes
  have hr := B.returns
  have hts := atoms_spec (ws := wuX6_colourAt) B.pre
  have hown : s.vm.findClass RX6 = some m.cls := findClass_of_methodNamed B.named
  have hlocks := B.notSynchronized
  subst hsz
  have hD := wD_self (sz := s.heap.size) hD0
  have hA9 : ∀ q, s.heap.size ≤ q → wA ad G s.heap.size q := fun q h => Or.inr h
  generalize hAe : wA ad G s.heap.size = A at hD hA9 hZ ⊢
  have hS : va_S A s.heap s.heap [] := va_S.rf
  have hl := lv_entry ([va_re ad p0, .int p1, .int p2, .int p3]) (n := 4) (by cases p0 <;> exact Nat.le_of_ble_eq_true rfl)
  rw [lg_entry_eq]
  generalize (lg_sl ([va_re ad p0, .int p1, .int p2, .int p3]) ++ List.replicate (4 - (lg_sl ([va_re ad p0, .int p1, .int p2, .int p3])).length) Slot.unset).toArray = ls at hl ⊢
  have hl : lv_has ls 4 [(0, va_re ad p0), (1, .int p1), (2, .int p2), (3, .int p3)] := by have e9 : lv_args 0 [va_re ad p0, .int p1, .int p2, .int p3] = [(0, va_re ad p0), (1, .int p1), (2, .int p2), (3, .int p3)] := (by cases p0 <;> rfl); rw [e9] at hl; exact hl
  unfold FX6_colourAt at hF
  refine lv_bipush (v := (8 : Int32)) hx hb dX6_colourAt_0 (by decide) ?_
  refine lv_iload_n hx hb dX6_colourAt_2 rfl (lv_at hl 1 rfl) ?_
  refine lv_aloadq_n hx hb dX6_colourAt_3 rfl (lv_at hl 0 rfl) ?_
  obtain ⟨b1, ho1, hc1, hk1, hF⟩ := dr_some hF
  refine W_st (st' := [.ref (ad b1), .int p1, .int (8 : Int32)]) (by rw [va_some ho1]) ?_
  refine va_get (D := D) (ci := 4) (v := .int (M.1 b1 1)) (C := RX4) (T := TX4) (N := 18) hx hb hts (mus hf_X4) hown hK hP b1 (wld_o ct ad G M hc1 hk1 (by decide)) rfl 1 (by decide) (hts (.fieldLink RX6 83 "VideoSuite$Picture" "width" "I") (mu mw_1422)) (fun _ h9 => h9) rfl dX6_colourAt_4 ?_
  obtain ⟨x2, ex2, hF⟩ := ltt_some hF
  refine lv_topi (fun zx2 ezx2 => ?_)
  obtain rfl : x2 = zx2 := ex2.trans ezx2.symm
  obtain ⟨hne, hF⟩ := chk_some hF
  refine lv_idiv hx hb dX6_colourAt_7 hne ?_
  obtain ⟨x3, ex3, hF⟩ := ltt_some hF
  refine lv_topi (fun zx3 ezx3 => ?_)
  obtain rfl : x3 = zx3 := ex3.trans ezx3.symm
  refine lv_imul hx hb dX6_colourAt_8 ?_
  obtain ⟨x4, ex4, hF⟩ := ltt_some hF
  refine lv_topi (fun zx4 ezx4 => ?_)
  obtain rfl : x4 = zx4 := ex4.trans ezx4.symm
  refine lv_iload_n hx hb dX6_colourAt_9 rfl (lv_at hl 3 rfl) ?_
  refine lv_iadd hx hb dX6_colourAt_10 ?_
  obtain ⟨x5, ex5, hF⟩ := ltt_some hF
  refine lv_topi (fun zx5 ezx5 => ?_)
  obtain rfl : x5 = zx5 := ex5.trans ezx5.symm
  refine lv_bipush (v := (8 : Int32)) hx hb dX6_colourAt_11 (by decide) ?_
  refine lv_imul hx hb dX6_colourAt_13 ?_
  obtain ⟨x6, ex6, hF⟩ := ltt_some hF
  refine lv_topi (fun zx6 ezx6 => ?_)
  obtain rfl : x6 = zx6 := ex6.trans ezx6.symm
  refine lv_aloadq_n hx hb dX6_colourAt_14 rfl (lv_at hl 0 rfl) ?_
  refine W_st (st' := [.ref (ad b1), .int x6]) (by rw [va_some ho1]) ?_
  refine va_get (D := D) (ci := 4) (v := .int (M.1 b1 1)) (C := RX4) (T := TX4) (N := 18) hx hb hts (mus hf_X4) hown hK hP b1 (wld_o ct ad G M hc1 hk1 (by decide)) rfl 1 (by decide) (hts (.fieldLink RX6 83 "VideoSuite$Picture" "width" "I") (mu mw_1422)) (fun _ h9 => h9) rfl dX6_colourAt_15 ?_
  obtain ⟨x7, ex7, hF⟩ := ltt_some hF
  refine lv_topi (fun zx7 ezx7 => ?_)
  obtain rfl : x7 = zx7 := ex7.trans ezx7.symm
  refine lv_imul hx hb dX6_colourAt_18 ?_
  obtain ⟨x8, ex8, hF⟩ := ltt_some hF
  refine lv_topi (fun zx8 ezx8 => ?_)
  obtain rfl : x8 = zx8 := ex8.trans ezx8.symm
  refine lv_bipush (v := (8 : Int32)) hx hb dX6_colourAt_19 (by decide) ?_
  refine lv_iload_n hx hb dX6_colourAt_21 rfl (lv_at hl 1 rfl) ?_
  refine lv_aloadq_n hx hb dX6_colourAt_22 rfl (lv_at hl 0 rfl) ?_
  refine W_st (st' := [.ref (ad b1), .int p1, .int (8 : Int32), .int x8]) (by rw [va_some ho1]) ?_
  refine va_get (D := D) (ci := 4) (v := .int (M.1 b1 1)) (C := RX4) (T := TX4) (N := 18) hx hb hts (mus hf_X4) hown hK hP b1 (wld_o ct ad G M hc1 hk1 (by decide)) rfl 1 (by decide) (hts (.fieldLink RX6 83 "VideoSuite$Picture" "width" "I") (mu mw_1422)) (fun _ h9 => h9) rfl dX6_colourAt_23 ?_
  obtain ⟨x9, ex9, hF⟩ := ltt_some hF
  refine lv_topi (fun zx9 ezx9 => ?_)
  obtain rfl : x9 = zx9 := ex9.trans ezx9.symm
  obtain ⟨hne, hF⟩ := chk_some hF
  refine lv_irem hx hb dX6_colourAt_26 hne ?_
  obtain ⟨x10, ex10, hF⟩ := ltt_some hF
  refine lv_topi (fun zx10 ezx10 => ?_)
  obtain rfl : x10 = zx10 := ex10.trans ezx10.symm
  refine lv_imul hx hb dX6_colourAt_27 ?_
  obtain ⟨x11, ex11, hF⟩ := ltt_some hF
  refine lv_topi (fun zx11 ezx11 => ?_)
  obtain rfl : x11 = zx11 := ex11.trans ezx11.symm
  refine lv_iadd hx hb dX6_colourAt_28 ?_
  obtain ⟨x12, ex12, hF⟩ := ltt_some hF
  refine lv_topi (fun zx12 ezx12 => ?_)
  obtain rfl : x12 = zx12 := ex12.trans ezx12.symm
  refine lv_iload_n hx hb dX6_colourAt_29 rfl (lv_at hl 2 rfl) ?_
  refine lv_iadd hx hb dX6_colourAt_30 ?_
  obtain ⟨x13, ex13, hF⟩ := ltt_some hF
  refine lv_topi (fun zx13 ezx13 => ?_)
  obtain rfl : x13 = zx13 := ex13.trans ezx13.symm
  obtain rfl := Option.some.inj hF
  exact W.iret (v := x13) hx hb hr (fun t ht hW => ⟨⟨_, (), rfl, rfl, ⟨by rw [ht]; exact hP, va_K.moved hW.alike hK, hD⟩⟩, hS.F ht⟩) hS.2.2 dX6_colourAt_31
set_option maxRecDepth 20000 in
theorem gX6_colourDifferences_X6_colourAt : GoodIn wuX6_colourDifferences (va_wsS RX6 206 yX6_colourAt wuX6_colourAt) := gu_S mw_1985 mw_1986 mw_172 mw_1987
theorem dX6_colourDifferences_0 : decode cX6_colourDifferences 0 = .ok (.iconst 0, 1) := by decide +kernel
theorem dX6_colourDifferences_1 : decode cX6_colourDifferences 1 = .ok (.istore 4, 2) := by decide +kernel
theorem dX6_colourDifferences_3 : decode cX6_colourDifferences 3 = .ok (.iconst 0, 1) := by decide +kernel
theorem dX6_colourDifferences_4 : decode cX6_colourDifferences 4 = .ok (.istore 5, 2) := by decide +kernel
theorem dX6_colourDifferences_6 : decode cX6_colourDifferences 6 = .ok (.iload 5, 2) := by decide +kernel
theorem dX6_colourDifferences_8 : decode cX6_colourDifferences 8 = .ok (.sipush 128, 3) := by decide +kernel
theorem dX6_colourDifferences_11 : decode cX6_colourDifferences 11 = .ok (.if_icmp .ge 76, 3) := by decide +kernel
theorem dX6_colourDifferences_14 : decode cX6_colourDifferences 14 = .ok (.iconst 1, 1) := by decide +kernel
theorem dX6_colourDifferences_15 : decode cX6_colourDifferences 15 = .ok (.iload 5, 2) := by decide +kernel
theorem dX6_colourDifferences_17 : decode cX6_colourDifferences 17 = .ok (.bipush 64, 2) := by decide +kernel
theorem dX6_colourDifferences_19 : decode cX6_colourDifferences 19 = .ok (.idiv, 1) := by decide +kernel
theorem dX6_colourDifferences_20 : decode cX6_colourDifferences 20 = .ok (.iadd, 1) := by decide +kernel
theorem dX6_colourDifferences_21 : decode cX6_colourDifferences 21 = .ok (.istore 6, 2) := by decide +kernel
theorem dX6_colourDifferences_23 : decode cX6_colourDifferences 23 = .ok (.aload_n 2, 1) := by decide +kernel
theorem dX6_colourDifferences_24 : decode cX6_colourDifferences 24 = .ok (.iload 6, 2) := by decide +kernel
theorem dX6_colourDifferences_26 : decode cX6_colourDifferences 26 = .ok (.aaload, 1) := by decide +kernel
theorem dX6_colourDifferences_27 : decode cX6_colourDifferences 27 = .ok (.aload_n 1, 1) := by decide +kernel
theorem dX6_colourDifferences_28 : decode cX6_colourDifferences 28 = .ok (.getfield 46, 3) := by decide +kernel
theorem dX6_colourDifferences_31 : decode cX6_colourDifferences 31 = .ok (.iload_n 3, 1) := by decide +kernel
theorem dX6_colourDifferences_32 : decode cX6_colourDifferences 32 = .ok (.iload 5, 2) := by decide +kernel
theorem dX6_colourDifferences_34 : decode cX6_colourDifferences 34 = .ok (.bipush 8, 2) := by decide +kernel
theorem dX6_colourDifferences_36 : decode cX6_colourDifferences 36 = .ok (.irem, 1) := by decide +kernel
theorem dX6_colourDifferences_37 : decode cX6_colourDifferences 37 = .ok (.iload 5, 2) := by decide +kernel
theorem dX6_colourDifferences_39 : decode cX6_colourDifferences 39 = .ok (.bipush 8, 2) := by decide +kernel
theorem dX6_colourDifferences_41 : decode cX6_colourDifferences 41 = .ok (.idiv, 1) := by decide +kernel
theorem dX6_colourDifferences_42 : decode cX6_colourDifferences 42 = .ok (.bipush 8, 2) := by decide +kernel
theorem dX6_colourDifferences_44 : decode cX6_colourDifferences 44 = .ok (.irem, 1) := by decide +kernel
theorem dX6_colourDifferences_45 : decode cX6_colourDifferences 45 = .ok (.invokestatic 206, 3) := by decide +kernel
theorem dX6_colourDifferences_48 : decode cX6_colourDifferences 48 = .ok (.iaload, 1) := by decide +kernel
theorem dX6_colourDifferences_49 : decode cX6_colourDifferences 49 = .ok (.aload_n 0, 1) := by decide +kernel
theorem dX6_colourDifferences_50 : decode cX6_colourDifferences 50 = .ok (.getfield 9, 3) := by decide +kernel
theorem dX6_colourDifferences_53 : decode cX6_colourDifferences 53 = .ok (.sipush 256, 3) := by decide +kernel
theorem dX6_colourDifferences_56 : decode cX6_colourDifferences 56 = .ok (.iload 5, 2) := by decide +kernel
theorem dX6_colourDifferences_58 : decode cX6_colourDifferences 58 = .ok (.iadd, 1) := by decide +kernel
theorem dX6_colourDifferences_59 : decode cX6_colourDifferences 59 = .ok (.iaload, 1) := by decide +kernel
theorem dX6_colourDifferences_60 : decode cX6_colourDifferences 60 = .ok (.isub, 1) := by decide +kernel
theorem dX6_colourDifferences_61 : decode cX6_colourDifferences 61 = .ok (.istore 7, 2) := by decide +kernel
theorem dX6_colourDifferences_63 : decode cX6_colourDifferences 63 = .ok (.iload 4, 2) := by decide +kernel
theorem dX6_colourDifferences_65 : decode cX6_colourDifferences 65 = .ok (.iload 7, 2) := by decide +kernel
theorem dX6_colourDifferences_67 : decode cX6_colourDifferences 67 = .ok (.ifCond .ge 9, 3) := by decide +kernel
theorem dX6_colourDifferences_70 : decode cX6_colourDifferences 70 = .ok (.iload 7, 2) := by decide +kernel
theorem dX6_colourDifferences_72 : decode cX6_colourDifferences 72 = .ok (.ineg, 1) := by decide +kernel
theorem dX6_colourDifferences_73 : decode cX6_colourDifferences 73 = .ok (.goto 5, 3) := by decide +kernel
theorem dX6_colourDifferences_76 : decode cX6_colourDifferences 76 = .ok (.iload 7, 2) := by decide +kernel
theorem dX6_colourDifferences_78 : decode cX6_colourDifferences 78 = .ok (.iadd, 1) := by decide +kernel
theorem dX6_colourDifferences_79 : decode cX6_colourDifferences 79 = .ok (.istore 4, 2) := by decide +kernel
theorem dX6_colourDifferences_81 : decode cX6_colourDifferences 81 = .ok (.iinc 5 1, 3) := by decide +kernel
theorem dX6_colourDifferences_84 : decode cX6_colourDifferences 84 = .ok (.goto (-78), 3) := by decide +kernel
theorem dX6_colourDifferences_87 : decode cX6_colourDifferences 87 = .ok (.iload 4, 2) := by decide +kernel
theorem dX6_colourDifferences_89 : decode cX6_colourDifferences 89 = .ok (.ireturn, 1) := by decide +kernel
def FX6_colourDifferences (G : GG) (M : DD) (a : Nat) (p0 : Option Nat) (p1 : Option Nat) (p2 : Int32) : Option (DD × Int32) :=
  bnd (itr (fun (s2 : Int32 × Int32 × DD) => ((if ((128 : Int32)) ≤ s2.2.1 then (some (.inr (s2.1, s2.2.1, s2.2.2))) else
  (ltt (s2.2.1 / ((64 : Int32))) fun x6 =>
  ltt ((((1 : Int32)) + x6)) fun x7 =>
  dr G 15 p1 fun b8 =>
  chk (¬ (x7 < 0 ∨ G.2.2 b8 ≤ x7.toNatClampNeg)) <|
  dr G 9 p0 fun b9 =>
  ltt (s2.2.1 - s2.2.1 / ((8 : Int32)) * ((8 : Int32))) fun x10 =>
  ltt (s2.2.1 / ((8 : Int32))) fun x11 =>
  ltt (x11 - x11 / ((8 : Int32)) * ((8 : Int32))) fun x12 =>
  bnd (FX6_colourAt G s2.2.2 ((s2.2.2.2 b9 0)) p2 x10 x12) fun y13 =>
  dr G 13 ((s2.2.2.2 b8 x7.toNatClampNeg)) fun b14 =>
  chk (¬ (y13.2 < 0 ∨ G.2.2 b14 ≤ y13.2.toNatClampNeg)) <|
  ltt (y13.1.1 b14 y13.2.toNatClampNeg) fun x15 =>
  ltt ((((256 : Int32)) + s2.2.1)) fun x16 =>
  dr G 13 ((y13.1.2 a 0)) fun b17 =>
  chk (¬ (x16 < 0 ∨ G.2.2 b17 ≤ x16.toNatClampNeg)) <|
  ltt (y13.1.1 b17 x16.toNatClampNeg) fun x18 =>
  ltt ((x15 - x18)) fun x19 =>
  bnd (if ((0 : Int32)) ≤ x19 then (some (x19)) else
  (ltt (-x19) fun x24 =>
  some (x24))) fun (y20 : Int32) =>
  ltt ((s2.1 + y20)) fun x21 =>
  ltt (s2.2.1 + (1 : Int32)) fun x22 =>
  some (.inl (x21, x22, y13.1)))) : Option ((Int32 × Int32 × DD) ⊕ (Int32 × Int32 × DD)))) 1000000 ((0 : Int32), (0 : Int32), M)) fun (y1 : Int32 × Int32 × DD) =>
  some (y1.2.2, y1.1)
set_option maxHeartbeats 4000000 in
set_option maxRecDepth 100000 in
theorem kX6_colourDifferences (l : Launch) (D : va_G) (ct : CT) (ad : Nat → Nat) (Z : Nat → Nat) (G : GG) (M : DD) (sz : Nat) (a : Nat) (p0 : Option Nat) (p1 : Option Nat) (p2 : Int32) (y : DD × Int32) (hc : a < G.1) (hk : G.2.1 a = 6) (hF : FX6_colourDifferences G M a p0 p1 p2 = some y) : Met l yX6_colourDifferences wuX6_colourDifferences ({ frames := 1, cells := 0, slots := 0, locals := 23 }) (va_Pc [.ref (ad a), va_re ad p0, va_re ad p1, .int p2] (kB D ct ad Z G M sz)) (va_Qi (fun (q : Int32) (_ : Unit) => q = y.2) (fun _ t => kE D ct ad G (wA ad G sz) y.1 t) (wA ad G sz)) 0 0 (wA ad G sz) := by
  refine Met.ofW (cc := cX6_colourDifferences) (maxL := 8) (ret := (some .int)) (by decide) rfl ?_
  intro p e s m args below meth c s₁ B hml hv
  obtain ⟨rfl, hsz, hP, hK, hD0, hZ, hN⟩ := hv
  have hx := B.exec
  have hb := B.bytes
  have hr := B.returns
  have hts := atoms_spec (ws := wuX6_colourDifferences) B.pre
  have hown : s.vm.findClass RX6 = some m.cls := findClass_of_methodNamed B.named
  have hlocks := B.notSynchronized
  subst hsz
  have hD := wD_self (sz := s.heap.size) hD0
  have hA9 : ∀ q, s.heap.size ≤ q → wA ad G s.heap.size q := fun q h => Or.inr h
  generalize hAe : wA ad G s.heap.size = A at hD hA9 hZ ⊢
  have hS : va_S A s.heap s.heap [] := va_S.rf
  have hl := lv_entry ([.ref (ad a), va_re ad p0, va_re ad p1, .int p2]) (n := 8) (by cases p0 <;> cases p1 <;> exact Nat.le_of_ble_eq_true rfl)
  rw [lg_entry_eq]
  generalize (lg_sl ([.ref (ad a), va_re ad p0, va_re ad p1, .int p2]) ++ List.replicate (8 - (lg_sl ([.ref (ad a), va_re ad p0, va_re ad p1, .int p2])).length) Slot.unset).toArray = ls at hl ⊢
  have hl : lv_has ls 8 [(0, .ref (ad a)), (1, va_re ad p0), (2, va_re ad p1), (3, .int p2)] := by have e9 : lv_args 0 [.ref (ad a), va_re ad p0, va_re ad p1, .int p2] = [(0, .ref (ad a)), (1, va_re ad p0), (2, va_re ad p1), (3, .int p2)] := (by cases p0 <;> cases p1 <;> rfl); rw [e9] at hl; exact hl
  unfold FX6_colourDifferences at hF
  refine lv_iconst (v := (0 : Int32)) hx hb dX6_colourDifferences_0 (by decide) ?_
  refine lv_istore (lv' := [(4, .int (0 : Int32)), (0, .ref (ad a)), (1, va_re ad p0), (2, va_re ad p1), (3, .int p2)]) hx hb dX6_colourDifferences_1 hl (by decide) rfl (fun ls hl => ?_)
  refine lv_iconst (v := (0 : Int32)) hx hb dX6_colourDifferences_3 (by decide) ?_
  refine lv_istore (lv' := [(5, .int (0 : Int32)), (4, .int (0 : Int32)), (0, .ref (ad a)), (1, va_re ad p0), (2, va_re ad p1), (3, .int p2)]) hx hb dX6_colourDifferences_4 hl (by decide) rfl (fun ls hl => ?_)
  obtain ⟨y1, hy1, hF⟩ := bnd_some hF
  have K1 : ∀ (H : Heap) (locs : List Loc) (ls : Array Slot), va_P D classes (wld ct ad G y1.2.2) H → va_D A (wld ct ad G y1.2.2) → va_S A s.heap H locs → lv_has ls 8 [(5, .int y1.2.1), (4, .int y1.1), (0, .ref (ad a)), (1, va_re ad p0), (2, va_re ad p1), (3, .int p2)] → W p l e (headSpec wuX6_colourDifferences ({ frames := 1, cells := 0, slots := 0, locals := 23 })).room s m ([.ref (ad a), va_re ad p0, va_re ad p1, .int p2] : List Value).toArray below meth c H locs 0 0 (MQ below (va_Qi (fun (q : Int32) (_ : Unit) => q = y.2) (fun _ t => kE D ct ad G A y.1 t) A) ([.ref (ad a), va_re ad p0, va_re ad p1, .int p2] : List Value).toArray s 0 0 A) (F0 m 87 ls []) := by
    intro H locs ls hP hD hS hl
    refine lv_iload hx hb dX6_colourDifferences_87 (lv_at hl 1 rfl) ?_
    obtain rfl := Option.some.inj hF
    exact W.iret (v := y1.1) hx hb hr (fun t ht hW => ⟨⟨_, (), rfl, rfl, ⟨by rw [ht]; exact hP, va_K.moved hW.alike hK, hD⟩⟩, hS.F ht⟩) hS.2.2 dX6_colourDifferences_89
  clear hF
  refine itr_rule (fun (s2 : Int32 × Int32 × DD) => ∀ (H : Heap) (locs : List Loc) (ls : Array Slot), va_P D classes (wld ct ad G s2.2.2) H → va_D A (wld ct ad G s2.2.2) → va_S A s.heap H locs → lv_has ls 8 [(5, .int s2.2.1), (4, .int s2.1), (0, .ref (ad a)), (1, va_re ad p0), (2, va_re ad p1), (3, .int p2)] → W p l e (headSpec wuX6_colourDifferences ({ frames := 1, cells := 0, slots := 0, locals := 23 })).room s m ([.ref (ad a), va_re ad p0, va_re ad p1, .int p2] : List Value).toArray below meth c H locs 0 0 (MQ below (va_Qi (fun (q : Int32) (_ : Unit) => q = y.2) (fun _ t => kE D ct ad G A y.1 t) A) ([.ref (ad a), va_re ad p0, va_re ad p1, .int p2] : List Value).toArray s 0 0 A) (F0 m 6 ls [])) ?_ _ _ hy1 _ _ _ hP hD hS (lv_sub hl [0, 1, 2, 3, 4, 5] rfl)
  rintro s2 ⟨z4, hF, hwz4⟩ H locs ls hP hD hS hl
  try dsimp only at hF
  refine lv_iload hx hb dX6_colourDifferences_6 (lv_at hl 0 rfl) ?_
  refine lv_sipush (v := (128 : Int32)) hx hb dX6_colourDifferences_8 (by decide) ?_
  refine lv_icmp_ge (tgt := 87) hx hb dX6_colourDifferences_11 (by decide) (fun c5 => ?_) (fun c5 => ?_)
  · rw [if_pos c5] at hF
    obtain rfl := Option.some.inj hF
    subst hwz4
    exact K1 _ _ _ hP hD hS (lv_sub hl [0, 1, 2, 3, 4, 5] rfl)
  · rw [if_neg c5] at hF
    refine lv_iconst (v := (1 : Int32)) hx hb dX6_colourDifferences_14 (by decide) ?_
    refine lv_iload hx hb dX6_colourDifferences_15 (lv_at hl 0 rfl) ?_
    refine lv_bipush (v := (64 : Int32)) hx hb dX6_colourDifferences_17 (by decide) ?_
    refine lv_idiv hx hb dX6_colourDifferences_19 (by decide) ?_
    obtain ⟨x6, ex6, hF⟩ := ltt_some hF
    refine lv_topi (fun zx6 ezx6 => ?_)
    obtain rfl : x6 = zx6 := ex6.trans ezx6.symm
    refine lv_iadd hx hb dX6_colourDifferences_20 ?_
    obtain ⟨x7, ex7, hF⟩ := ltt_some hF
    refine lv_topi (fun zx7 ezx7 => ?_)
    obtain rfl : x7 = zx7 := ex7.trans ezx7.symm
    refine lv_istore (lv' := [(6, .int x7), (5, .int s2.2.1), (4, .int s2.1), (0, .ref (ad a)), (1, va_re ad p0), (2, va_re ad p1), (3, .int p2)]) hx hb dX6_colourDifferences_21 hl (by decide) rfl (fun ls hl => ?_)
    refine lv_aloadq_n hx hb dX6_colourDifferences_23 rfl (lv_at hl 5 rfl) ?_
    refine lv_iload hx hb dX6_colourDifferences_24 (lv_at hl 0 rfl) ?_
    obtain ⟨b8, ho8, hc8, hk8, hF⟩ := dr_some hF
    refine W_st (st' := [.int x7, .ref (ad b8)]) (by rw [va_some ho8]) ?_
    obtain ⟨hvc, hF⟩ := chk_some hF
    refine ld_g hx hb hK hP hc8 hk8 hvc dX6_colourDifferences_26 ?_
    refine lv_aloadq_n hx hb dX6_colourDifferences_27 rfl (lv_at hl 4 rfl) ?_
    obtain ⟨b9, ho9, hc9, hk9, hF⟩ := dr_some hF
    refine W_st (st' := [.ref (ad b9), va_re ad (s2.2.2.2 b8 x7.toNatClampNeg)]) (by rw [va_some ho9]) ?_
    refine va_get (D := D) (ci := 9) (v := va_re ad (s2.2.2.2 b9 0)) (C := RX9) (T := TX9) (N := 20) hx hb hts (mus hf_X9) hown hK hP b9 (wld_o ct ad G s2.2.2 hc9 hk9 (by decide)) rfl 0 (by decide) (hts (.fieldLink RX6 46 "VideoSuite$Work" "pic" "LVideoSuite$Picture;") (mu mw_421)) (fun _ h9 => h9) rfl dX6_colourDifferences_28 ?_
    refine lv_iload_n hx hb dX6_colourDifferences_31 rfl (lv_at hl 6 rfl) ?_
    refine lv_iload hx hb dX6_colourDifferences_32 (lv_at hl 1 rfl) ?_
    refine lv_bipush (v := (8 : Int32)) hx hb dX6_colourDifferences_34 (by decide) ?_
    refine lv_irem hx hb dX6_colourDifferences_36 (by decide) ?_
    obtain ⟨x10, ex10, hF⟩ := ltt_some hF
    refine lv_topi (fun zx10 ezx10 => ?_)
    obtain rfl : x10 = zx10 := ex10.trans ezx10.symm
    refine lv_iload hx hb dX6_colourDifferences_37 (lv_at hl 1 rfl) ?_
    refine lv_bipush (v := (8 : Int32)) hx hb dX6_colourDifferences_39 (by decide) ?_
    refine lv_idiv hx hb dX6_colourDifferences_41 (by decide) ?_
    obtain ⟨x11, ex11, hF⟩ := ltt_some hF
    refine lv_topi (fun zx11 ezx11 => ?_)
    obtain rfl : x11 = zx11 := ex11.trans ezx11.symm
    refine lv_bipush (v := (8 : Int32)) hx hb dX6_colourDifferences_42 (by decide) ?_
    refine lv_irem hx hb dX6_colourDifferences_44 (by decide) ?_
    obtain ⟨x12, ex12, hF⟩ := ltt_some hF
    refine lv_topi (fun zx12 ezx12 => ?_)
    obtain rfl : x12 = zx12 := ex12.trans ezx12.symm
    obtain ⟨y13, hy13, hF⟩ := bnd_some hF
    have hf9 := wA_in hD hA9 hS
    refine va_calli (va_runS (As := [va_re ad (s2.2.2.2 b9 0), .int p2, .int x10, .int x12]) (rest := [va_re ad (s2.2.2.2 b8 x7.toNatClampNeg)]) ⟨hx, hb, hml, hown, hts⟩ (kX6_colourAt l D ct ad Z G s2.2.2 H.size ((s2.2.2.2 b9 0)) p2 x10 x12 y13 hy13) (va_cwS 4 hts gX6_colourDifferences_X6_colourAt rfl rfl rfl (by decide +kernel) ⟨Nat.le_of_ble_eq_true rfl, Nat.le_of_ble_eq_true rfl⟩) ⟨fun a U g mk q => by obtain ⟨q0, q1, qP, qK, qD, qZ, qN⟩ := q; exact ⟨q0, q1, qP, va_K.moved (u := U) (U := U.calling g mk a) (Vm.Alike.refl U.vm) qK, qD, sF.moved (u := U) (U := U.calling g mk a) (Vm.Alike.refl U.vm) qZ, nF.same rfl qN⟩, fun U hU hW => ⟨rfl, by rw [hU], by rw [hU]; exact hP, va_K.moved hW.alike hK, hD.weaken (fun _ _ _ _ => trivial), by rw [hU]; exact ((hZ.kept hS.2.1).narrow hf9).moved hW.alike, hN.warm hW⟩⟩ rfl rfl hl.1 rfl (lv_room (by simp only [List.map, va_re_cat]; exact Nat.le_of_ble_eq_true rfl)) dX6_colourDifferences_45 ⟨(Nat.zero_le _), (Nat.zero_le _)⟩) hS (fun q _ h => hf9 q h) hf9 (fun r u t H locs ht hvm hw hB hz1 hk1 hS => ?_)
    obtain ⟨hP, hK9, hD9⟩ := hB
    rw [ht] at hP
    try dsimp only at hw
    subst hw
    have hD := hD9.weaken (fun _ q _ h => hf9 q.1 h)
    obtain ⟨b14, ho14, hc14, hk14, hF⟩ := dr_some hF
    refine W_st (st' := [.int y13.2, .ref (ad b14)]) (by rw [va_some ho14]) ?_
    obtain ⟨hvc, hF⟩ := chk_some hF
    refine va_iald hx hb hK hP b14 1 (wld_i ct ad G y13.1 hc14 hk14) rfl hvc dX6_colourDifferences_48 ?_
    obtain ⟨x15, ex15, hF⟩ := ltt_some hF
    refine lv_topi (fun zx15 ezx15 => ?_)
    obtain rfl : x15 = zx15 := ex15.trans ezx15.symm
    refine lv_aload_n hx hb dX6_colourDifferences_49 rfl (lv_at hl 3 rfl) ?_
    refine va_get (D := D) (ci := 6) (v := va_re ad (y13.1.2 a 0)) (C := RX6) (T := TX6) (N := 14) hx hb hts (mus hf_X6) hown hK hP a (wld_o ct ad G y13.1 hc hk (by decide)) rfl 0 (by decide) (hts (.fieldLink RX6 9 "VideoSuite$Samples" "guess" "[I") (mu mw_533)) (fun _ h9 => h9) rfl dX6_colourDifferences_50 ?_
    refine lv_sipush (v := (256 : Int32)) hx hb dX6_colourDifferences_53 (by decide) ?_
    refine lv_iload hx hb dX6_colourDifferences_56 (lv_at hl 1 rfl) ?_
    refine lv_iadd hx hb dX6_colourDifferences_58 ?_
    obtain ⟨x16, ex16, hF⟩ := ltt_some hF
    refine lv_topi (fun zx16 ezx16 => ?_)
    obtain rfl : x16 = zx16 := ex16.trans ezx16.symm
    obtain ⟨b17, ho17, hc17, hk17, hF⟩ := dr_some hF
    refine W_st (st' := [.int x16, .ref (ad b17), .int x15]) (by rw [va_some ho17]) ?_
    obtain ⟨hvc, hF⟩ := chk_some hF
    refine va_iald hx hb hK hP b17 1 (wld_i ct ad G y13.1 hc17 hk17) rfl hvc dX6_colourDifferences_59 ?_
    obtain ⟨x18, ex18, hF⟩ := ltt_some hF
    refine lv_topi (fun zx18 ezx18 => ?_)
    obtain rfl : x18 = zx18 := ex18.trans ezx18.symm
    refine lv_isub hx hb dX6_colourDifferences_60 ?_
    obtain ⟨x19, ex19, hF⟩ := ltt_some hF
    refine lv_topi (fun zx19 ezx19 => ?_)
    obtain rfl : x19 = zx19 := ex19.trans ezx19.symm
    refine lv_istore (lv' := [(7, .int x19), (6, .int x7), (5, .int s2.2.1), (4, .int s2.1), (0, .ref (ad a)), (1, va_re ad p0), (2, va_re ad p1), (3, .int p2)]) hx hb dX6_colourDifferences_61 hl (by decide) rfl (fun ls hl => ?_)
    refine lv_iload hx hb dX6_colourDifferences_63 (lv_at hl 3 rfl) ?_
    refine lv_iload hx hb dX6_colourDifferences_65 (lv_at hl 0 rfl) ?_
    obtain ⟨y20, hy20, hF⟩ := bnd_some hF
    have J20 : ∀ (H : Heap) (locs : List Loc) (ls : Array Slot), va_P D classes (wld ct ad G y13.1) H → va_D A (wld ct ad G y13.1) → va_S A s.heap H locs → lv_has ls 8 [(7, .int x19), (6, .int x7), (5, .int s2.2.1), (4, .int s2.1), (0, .ref (ad a)), (1, va_re ad p0), (2, va_re ad p1), (3, .int p2)] → W p l e (headSpec wuX6_colourDifferences ({ frames := 1, cells := 0, slots := 0, locals := 23 })).room s m ([.ref (ad a), va_re ad p0, va_re ad p1, .int p2] : List Value).toArray below meth c H locs 0 0 (MQ below (va_Qi (fun (q : Int32) (_ : Unit) => q = y.2) (fun _ t => kE D ct ad G A y.1 t) A) ([.ref (ad a), va_re ad p0, va_re ad p1, .int p2] : List Value).toArray s 0 0 A) (F0 m 78 ls [.int y20, .int s2.1]) := by
      intro H locs ls hP hD hS hl
      refine lv_iadd hx hb dX6_colourDifferences_78 ?_
      obtain ⟨x21, ex21, hF⟩ := ltt_some hF
      refine lv_topi (fun zx21 ezx21 => ?_)
      obtain rfl : x21 = zx21 := ex21.trans ezx21.symm
      refine lv_istore (lv' := [(4, .int x21), (7, .int x19), (6, .int x7), (5, .int s2.2.1), (0, .ref (ad a)), (1, va_re ad p0), (2, va_re ad p1), (3, .int p2)]) hx hb dX6_colourDifferences_79 hl (by decide) rfl (fun ls hl => ?_)
      obtain ⟨x22, ex22, hF⟩ := ltt_some hF
      refine lv_iinc (v := x22) (lv' := [(5, .int x22), (4, .int x21), (7, .int x19), (6, .int x7), (0, .ref (ad a)), (1, va_re ad p0), (2, va_re ad p1), (3, .int p2)]) hx hb dX6_colourDifferences_81 hl (k := 3) rfl (by rw [ex22]; rfl) (by decide) rfl (fun ls hl => ?_)
      refine lv_goto (tgt := 6) hx hb dX6_colourDifferences_84 (by decide) ?_
      obtain rfl := Option.some.inj hF
      exact hwz4 _ _ _ hP hD hS (lv_sub hl [0, 1, 4, 5, 6, 7] rfl)
    clear hF
    have hF := hy20
    clear hy20
    refine lv_if_ge (tgt := 76) hx hb dX6_colourDifferences_67 (by decide) (fun c23 => ?_) (fun c23 => ?_)
    · rw [if_pos c23] at hF
      refine lv_iload hx hb dX6_colourDifferences_76 (lv_at hl 0 rfl) ?_
      obtain rfl := Option.some.inj hF
      exact J20 _ _ _ hP hD hS (lv_sub hl [0, 1, 2, 3, 4, 5, 6, 7] rfl)
    · rw [if_neg c23] at hF
      refine lv_iload hx hb dX6_colourDifferences_70 (lv_at hl 0 rfl) ?_
      refine lv_ineg hx hb dX6_colourDifferences_72 ?_
      obtain ⟨x24, ex24, hF⟩ := ltt_some hF
      refine lv_topi (fun zx24 ezx24 => ?_)
      obtain rfl : x24 = zx24 := ex24.trans ezx24.symm
      refine lv_goto (tgt := 78) hx hb dX6_colourDifferences_73 (by decide) ?_
      obtain rfl := Option.some.inj hF
      exact J20 _ _ _ hP hD hS (lv_sub hl [0, 1, 2, 3, 4, 5, 6, 7] rfl)
set_option maxRecDepth 20000 in
theorem gX6_colourStep_X11_clamp_n39 : GoodIn wuX6_colourStep wuX11_clamp := gu_P mw_939
theorem dX6_colourStep_0 : decode cX6_colourStep 0 = .ok (.iconst 0, 1) := by decide +kernel
theorem dX6_colourStep_1 : decode cX6_colourStep 1 = .ok (.bipush 51, 2) := by decide +kernel
theorem dX6_colourStep_3 : decode cX6_colourStep 3 = .ok (.iload_n 0, 1) := by decide +kernel
theorem dX6_colourStep_4 : decode cX6_colourStep 4 = .ok (.iload_n 1, 1) := by decide +kernel
theorem dX6_colourStep_5 : decode cX6_colourStep 5 = .ok (.iadd, 1) := by decide +kernel
theorem dX6_colourStep_6 : decode cX6_colourStep 6 = .ok (.invokestatic 39, 3) := by decide +kernel
theorem dX6_colourStep_9 : decode cX6_colourStep 9 = .ok (.istore_n 2, 1) := by decide +kernel
theorem dX6_colourStep_10 : decode cX6_colourStep 10 = .ok (.iload_n 2, 1) := by decide +kernel
theorem dX6_colourStep_11 : decode cX6_colourStep 11 = .ok (.bipush 30, 2) := by decide +kernel
theorem dX6_colourStep_13 : decode cX6_colourStep 13 = .ok (.if_icmp .ge 7, 3) := by decide +kernel
theorem dX6_colourStep_16 : decode cX6_colourStep 16 = .ok (.iload_n 2, 1) := by decide +kernel
theorem dX6_colourStep_17 : decode cX6_colourStep 17 = .ok (.goto 11, 3) := by decide +kernel
theorem dX6_colourStep_20 : decode cX6_colourStep 20 = .ok (.getstatic 43, 3) := by decide +kernel
theorem dX6_colourStep_23 : decode cX6_colourStep 23 = .ok (.iload_n 2, 1) := by decide +kernel
theorem dX6_colourStep_24 : decode cX6_colourStep 24 = .ok (.bipush 30, 2) := by decide +kernel
theorem dX6_colourStep_26 : decode cX6_colourStep 26 = .ok (.isub, 1) := by decide +kernel
theorem dX6_colourStep_27 : decode cX6_colourStep 27 = .ok (.iaload, 1) := by decide +kernel
theorem dX6_colourStep_28 : decode cX6_colourStep 28 = .ok (.ireturn, 1) := by decide +kernel
def FX6_colourStep (G : GG) (M : DD) (p0 : Int32) (p1 : Int32) : Option (DD × Int32) :=
  ltt ((p0 + p1)) fun x1 =>
  bnd (FX11_clamp G M ((0 : Int32)) ((51 : Int32)) x1) fun y2 =>
  bnd (if ((30 : Int32)) ≤ y2.2 then (ltt ((y2.2 - ((30 : Int32)))) fun x5 =>
  chk (¬ (x5 < 0 ∨ 22 ≤ x5.toNatClampNeg)) <|
  ltt ((sT 11).getD x5.toNatClampNeg 0) fun x6 =>
  some (x6)) else
  (some (y2.2))) fun (y3 : Int32) =>
  some (y2.1, y3)
set_option maxHeartbeats 4000000 in
set_option maxRecDepth 100000 in
theorem kX6_colourStep (l : Launch) (D : va_G) (ct : CT) (ad : Nat → Nat) (Z : Nat → Nat) (G : GG) (M : DD) (sz : Nat) (p0 : Int32) (p1 : Int32) (y : DD × Int32) (hF : FX6_colourStep G M p0 p1 = some y) : Met l yX6_colourStep wuX6_colourStep ({ frames := 1, cells := 0, slots := 0, locals := 22 }) (va_Pc [.int p0, .int p1] (kB D ct ad Z G M sz)) (va_Qi (fun (q : Int32) (_ : Unit) => q = y.2) (fun _ t => kE D ct ad G (wA ad G sz) y.1 t) (wA ad G sz)) 0 0 (wA ad G sz) := by
  refine Met.ofW (cc := cX6_colourStep) (maxL := 3) (ret := (some .int)) (by decide) rfl ?_
  intro p e s m args below meth c s₁ B hml hv
  obtain ⟨rfl, hsz, hP, hK, hD0, hZ, hN⟩ := hv
  have hx := B.exec
  have hb := B.bytes
  have hr := B.returns
  have hts := atoms_spec (ws := wuX6_colourStep) B.pre
  have hown : s.vm.findClass RX6 = some m.cls := findClass_of_methodNamed B.named
  have hlocks := B.notSynchronized
  subst hsz
  have hD := wD_self (sz := s.heap.size) hD0
  have hA9 : ∀ q, s.heap.size ≤ q → wA ad G s.heap.size q := fun q h => Or.inr h
  generalize hAe : wA ad G s.heap.size = A at hD hA9 hZ ⊢
  have hS : va_S A s.heap s.heap [] := va_S.rf
  have hl := lv_entry ([.int p0, .int p1]) (n := 3) (Nat.le_of_ble_eq_true rfl)
  rw [lg_entry_eq]
  generalize (lg_sl ([.int p0, .int p1]) ++ List.replicate (3 - (lg_sl ([.int p0, .int p1])).length) Slot.unset).toArray = ls at hl ⊢
  have hl : lv_has ls 3 [(0, .int p0), (1, .int p1)] := hl
  unfold FX6_colourStep at hF
  refine lv_iconst (v := (0 : Int32)) hx hb dX6_colourStep_0 (by decide) ?_
  refine lv_bipush (v := (51 : Int32)) hx hb dX6_colourStep_1 (by decide) ?_
  refine lv_iload_n hx hb dX6_colourStep_3 rfl (lv_at hl 0 rfl) ?_
  refine lv_iload_n hx hb dX6_colourStep_4 rfl (lv_at hl 1 rfl) ?_
  refine lv_iadd hx hb dX6_colourStep_5 ?_
  obtain ⟨x1, ex1, hF⟩ := ltt_some hF
  refine lv_topi (fun zx1 ezx1 => ?_)
  obtain rfl : x1 = zx1 := ex1.trans ezx1.symm
  obtain ⟨y2, hy2, hF⟩ := bnd_some hF
  have hf9 := wA_in hD hA9 hS
  refine va_calli (va_runSN (As := [.int (0 : Int32), .int (51 : Int32), .int x1]) (rest := []) ⟨hx, hb, hml, hown, hts⟩ (kX11_clamp l D ct ad Z G M s.heap.size ((0 : Int32)) ((51 : Int32)) x1 y2 hy2) ⟨va_cnB 3 hts gX6_colourStep_X11_clamp_n39 rfl rfl rfl (hN.1 (RX6, 39, yX11_clamp, RX11) (List.mem_of_getElem? (i := 20) rfl)) (hts (.initialized RX11) (mu mw_166)) (by decide +kernel) ⟨Nat.le_of_ble_eq_true rfl, Nat.le_of_ble_eq_true rfl⟩, hts (.static yX11_clamp) (mu mw_938), trivial⟩ ⟨fun a U g mk q => by obtain ⟨q0, q1, qP, qK, qD, qZ, qN⟩ := q; exact ⟨q0, q1, qP, va_K.moved (u := U) (U := U.calling g mk a) (Vm.Alike.refl U.vm) qK, qD, sF.moved (u := U) (U := U.calling g mk a) (Vm.Alike.refl U.vm) qZ, nF.same rfl qN⟩, fun U hU hW => ⟨rfl, by rw [hU], by rw [hU]; exact hP, va_K.moved hW.alike hK, hD.weaken (fun _ _ _ _ => trivial), by rw [hU]; exact ((hZ.kept hS.2.1).narrow hf9).moved hW.alike, hN.warm hW⟩⟩ rfl rfl hl.1 rfl (lv_room (Nat.le_of_ble_eq_true rfl)) dX6_colourStep_6 ⟨(Nat.zero_le _), (Nat.zero_le _)⟩) hS (fun q _ h => hf9 q h) hf9 (fun r u t H locs ht hvm hw hB hz1 hk1 hS => ?_)
  obtain ⟨hP, hK9, hD9⟩ := hB
  rw [ht] at hP
  try dsimp only at hw
  subst hw
  have hD := hD9.weaken (fun _ q _ h => hf9 q.1 h)
  refine lv_istore_n (lv' := [(2, .int y2.2), (0, .int p0), (1, .int p1)]) hx hb dX6_colourStep_9 rfl hl (by decide) rfl (fun ls hl => ?_)
  refine lv_iload_n hx hb dX6_colourStep_10 rfl (lv_at hl 0 rfl) ?_
  refine lv_bipush (v := (30 : Int32)) hx hb dX6_colourStep_11 (by decide) ?_
  obtain ⟨y3, hy3, hF⟩ := bnd_some hF
  have J3 : ∀ (H : Heap) (locs : List Loc) (ls : Array Slot), va_P D classes (wld ct ad G y2.1) H → va_D A (wld ct ad G y2.1) → va_S A s.heap H locs → lv_has ls 3 [(2, .int y2.2), (0, .int p0), (1, .int p1)] → W p l e (headSpec wuX6_colourStep ({ frames := 1, cells := 0, slots := 0, locals := 22 })).room s m ([.int p0, .int p1] : List Value).toArray below meth c H locs 0 0 (MQ below (va_Qi (fun (q : Int32) (_ : Unit) => q = y.2) (fun _ t => kE D ct ad G A y.1 t) A) ([.int p0, .int p1] : List Value).toArray s 0 0 A) (F0 m 28 ls [.int y3]) := by
    intro H locs ls hP hD hS hl
    obtain rfl := Option.some.inj hF
    exact W.iret (v := y3) hx hb hr (fun t ht hW => ⟨⟨_, (), rfl, rfl, ⟨by rw [ht]; exact hP, va_K.moved hW.alike hK, hD⟩⟩, hS.F ht⟩) hS.2.2 dX6_colourStep_28
  clear hF
  have hF := hy3
  clear hy3
  refine lv_icmp_ge (tgt := 20) hx hb dX6_colourStep_13 (by decide) (fun c4 => ?_) (fun c4 => ?_)
  · rw [if_pos c4] at hF
    refine va_gets hx hb (hZ.1 11 (by decide)).1 hS hown (hts (.fieldLink RX6 43 "VideoSuite$Samples" "COLOUR_STEP" "[I") (mu mw_978)) (fun _ h => h) dX6_colourStep_20 ?_
    refine lv_iload_n hx hb dX6_colourStep_23 rfl (lv_at hl 0 rfl) ?_
    refine lv_bipush (v := (30 : Int32)) hx hb dX6_colourStep_24 (by decide) ?_
    refine lv_isub hx hb dX6_colourStep_26 ?_
    obtain ⟨x5, ex5, hF⟩ := ltt_some hF
    refine lv_topi (fun zx5 ezx5 => ?_)
    obtain rfl : x5 = zx5 := ex5.trans ezx5.symm
    obtain ⟨hvc, hF⟩ := chk_some hF
    refine va_ti (v := .int ((sT 11).getD x5.toNatClampNeg 0)) hx hb (hZ.1 11 (by decide)).2 hS hvc rfl dX6_colourStep_27 ?_
    obtain ⟨x6, ex6, hF⟩ := ltt_some hF
    refine lv_topi (fun zx6 ezx6 => ?_)
    obtain rfl : x6 = zx6 := ex6.trans ezx6.symm
    obtain rfl := Option.some.inj hF
    exact J3 _ _ _ hP hD hS (lv_sub hl [0, 1, 2] rfl)
  · rw [if_neg c4] at hF
    refine lv_iload_n hx hb dX6_colourStep_16 rfl (lv_at hl 0 rfl) ?_
    refine lv_goto (tgt := 28) hx hb dX6_colourStep_17 (by decide) ?_
    obtain rfl := Option.some.inj hF
    exact J3 _ _ _ hP hD hS (lv_sub hl [0, 1, 2] rfl)
theorem dX6_fillPlane_0 : decode cX6_fillPlane 0 = .ok (.iload_n 2, 1) := by decide +kernel
theorem dX6_fillPlane_1 : decode cX6_fillPlane 1 = .ok (.iconst 2, 1) := by decide +kernel
theorem dX6_fillPlane_2 : decode cX6_fillPlane 2 = .ok (.idiv, 1) := by decide +kernel
theorem dX6_fillPlane_3 : decode cX6_fillPlane 3 = .ok (.istore 4, 2) := by decide +kernel
theorem dX6_fillPlane_5 : decode cX6_fillPlane 5 = .ok (.iconst 0, 1) := by decide +kernel
theorem dX6_fillPlane_6 : decode cX6_fillPlane 6 = .ok (.istore 5, 2) := by decide +kernel
theorem dX6_fillPlane_8 : decode cX6_fillPlane 8 = .ok (.iconst 0, 1) := by decide +kernel
theorem dX6_fillPlane_9 : decode cX6_fillPlane 9 = .ok (.istore 6, 2) := by decide +kernel
theorem dX6_fillPlane_11 : decode cX6_fillPlane 11 = .ok (.iconst 1, 1) := by decide +kernel
theorem dX6_fillPlane_12 : decode cX6_fillPlane 12 = .ok (.istore 7, 2) := by decide +kernel
theorem dX6_fillPlane_14 : decode cX6_fillPlane 14 = .ok (.iload 7, 2) := by decide +kernel
theorem dX6_fillPlane_16 : decode cX6_fillPlane 16 = .ok (.iload 4, 2) := by decide +kernel
theorem dX6_fillPlane_18 : decode cX6_fillPlane 18 = .ok (.if_icmp .gt 75, 3) := by decide +kernel
theorem dX6_fillPlane_21 : decode cX6_fillPlane 21 = .ok (.iload 5, 2) := by decide +kernel
theorem dX6_fillPlane_23 : decode cX6_fillPlane 23 = .ok (.iload 7, 2) := by decide +kernel
theorem dX6_fillPlane_25 : decode cX6_fillPlane 25 = .ok (.aload_n 0, 1) := by decide +kernel
theorem dX6_fillPlane_26 : decode cX6_fillPlane 26 = .ok (.getfield 36, 3) := by decide +kernel
theorem dX6_fillPlane_29 : decode cX6_fillPlane 29 = .ok (.iload 4, 2) := by decide +kernel
theorem dX6_fillPlane_31 : decode cX6_fillPlane 31 = .ok (.iload 7, 2) := by decide +kernel
theorem dX6_fillPlane_33 : decode cX6_fillPlane 33 = .ok (.iadd, 1) := by decide +kernel
theorem dX6_fillPlane_34 : decode cX6_fillPlane 34 = .ok (.iaload, 1) := by decide +kernel
theorem dX6_fillPlane_35 : decode cX6_fillPlane 35 = .ok (.aload_n 0, 1) := by decide +kernel
theorem dX6_fillPlane_36 : decode cX6_fillPlane 36 = .ok (.getfield 36, 3) := by decide +kernel
theorem dX6_fillPlane_39 : decode cX6_fillPlane 39 = .ok (.iload 4, 2) := by decide +kernel
theorem dX6_fillPlane_41 : decode cX6_fillPlane 41 = .ok (.iload 7, 2) := by decide +kernel
theorem dX6_fillPlane_43 : decode cX6_fillPlane 43 = .ok (.isub, 1) := by decide +kernel
theorem dX6_fillPlane_44 : decode cX6_fillPlane 44 = .ok (.iaload, 1) := by decide +kernel
theorem dX6_fillPlane_45 : decode cX6_fillPlane 45 = .ok (.isub, 1) := by decide +kernel
theorem dX6_fillPlane_46 : decode cX6_fillPlane 46 = .ok (.imul, 1) := by decide +kernel
theorem dX6_fillPlane_47 : decode cX6_fillPlane 47 = .ok (.iadd, 1) := by decide +kernel
theorem dX6_fillPlane_48 : decode cX6_fillPlane 48 = .ok (.istore 5, 2) := by decide +kernel
theorem dX6_fillPlane_50 : decode cX6_fillPlane 50 = .ok (.iload 6, 2) := by decide +kernel
theorem dX6_fillPlane_52 : decode cX6_fillPlane 52 = .ok (.iload 7, 2) := by decide +kernel
theorem dX6_fillPlane_54 : decode cX6_fillPlane 54 = .ok (.aload_n 0, 1) := by decide +kernel
theorem dX6_fillPlane_55 : decode cX6_fillPlane 55 = .ok (.getfield 36, 3) := by decide +kernel
theorem dX6_fillPlane_58 : decode cX6_fillPlane 58 = .ok (.iload_n 2, 1) := by decide +kernel
theorem dX6_fillPlane_59 : decode cX6_fillPlane 59 = .ok (.iconst 1, 1) := by decide +kernel
theorem dX6_fillPlane_60 : decode cX6_fillPlane 60 = .ok (.iadd, 1) := by decide +kernel
theorem dX6_fillPlane_61 : decode cX6_fillPlane 61 = .ok (.iload 4, 2) := by decide +kernel
theorem dX6_fillPlane_63 : decode cX6_fillPlane 63 = .ok (.iadd, 1) := by decide +kernel
theorem dX6_fillPlane_64 : decode cX6_fillPlane 64 = .ok (.iload 7, 2) := by decide +kernel
theorem dX6_fillPlane_66 : decode cX6_fillPlane 66 = .ok (.iadd, 1) := by decide +kernel
theorem dX6_fillPlane_67 : decode cX6_fillPlane 67 = .ok (.iaload, 1) := by decide +kernel
theorem dX6_fillPlane_68 : decode cX6_fillPlane 68 = .ok (.aload_n 0, 1) := by decide +kernel
theorem dX6_fillPlane_69 : decode cX6_fillPlane 69 = .ok (.getfield 36, 3) := by decide +kernel
theorem dX6_fillPlane_72 : decode cX6_fillPlane 72 = .ok (.iload_n 2, 1) := by decide +kernel
theorem dX6_fillPlane_73 : decode cX6_fillPlane 73 = .ok (.iconst 1, 1) := by decide +kernel
theorem dX6_fillPlane_74 : decode cX6_fillPlane 74 = .ok (.iadd, 1) := by decide +kernel
theorem dX6_fillPlane_75 : decode cX6_fillPlane 75 = .ok (.iload 4, 2) := by decide +kernel
theorem dX6_fillPlane_77 : decode cX6_fillPlane 77 = .ok (.iadd, 1) := by decide +kernel
theorem dX6_fillPlane_78 : decode cX6_fillPlane 78 = .ok (.iload 7, 2) := by decide +kernel
theorem dX6_fillPlane_80 : decode cX6_fillPlane 80 = .ok (.isub, 1) := by decide +kernel
theorem dX6_fillPlane_81 : decode cX6_fillPlane 81 = .ok (.iaload, 1) := by decide +kernel
theorem dX6_fillPlane_82 : decode cX6_fillPlane 82 = .ok (.isub, 1) := by decide +kernel
theorem dX6_fillPlane_83 : decode cX6_fillPlane 83 = .ok (.imul, 1) := by decide +kernel
theorem dX6_fillPlane_84 : decode cX6_fillPlane 84 = .ok (.iadd, 1) := by decide +kernel
theorem dX6_fillPlane_85 : decode cX6_fillPlane 85 = .ok (.istore 6, 2) := by decide +kernel
theorem dX6_fillPlane_87 : decode cX6_fillPlane 87 = .ok (.iinc 7 1, 3) := by decide +kernel
theorem dX6_fillPlane_90 : decode cX6_fillPlane 90 = .ok (.goto (-76), 3) := by decide +kernel
theorem dX6_fillPlane_93 : decode cX6_fillPlane 93 = .ok (.iload_n 3, 1) := by decide +kernel
theorem dX6_fillPlane_94 : decode cX6_fillPlane 94 = .ok (.iload 5, 2) := by decide +kernel
theorem dX6_fillPlane_96 : decode cX6_fillPlane 96 = .ok (.imul, 1) := by decide +kernel
theorem dX6_fillPlane_97 : decode cX6_fillPlane 97 = .ok (.bipush 32, 2) := by decide +kernel
theorem dX6_fillPlane_99 : decode cX6_fillPlane 99 = .ok (.iadd, 1) := by decide +kernel
theorem dX6_fillPlane_100 : decode cX6_fillPlane 100 = .ok (.bipush 6, 2) := by decide +kernel
theorem dX6_fillPlane_102 : decode cX6_fillPlane 102 = .ok (.ishr, 1) := by decide +kernel
theorem dX6_fillPlane_103 : decode cX6_fillPlane 103 = .ok (.istore 7, 2) := by decide +kernel
theorem dX6_fillPlane_105 : decode cX6_fillPlane 105 = .ok (.iload_n 3, 1) := by decide +kernel
theorem dX6_fillPlane_106 : decode cX6_fillPlane 106 = .ok (.iload 6, 2) := by decide +kernel
theorem dX6_fillPlane_108 : decode cX6_fillPlane 108 = .ok (.imul, 1) := by decide +kernel
theorem dX6_fillPlane_109 : decode cX6_fillPlane 109 = .ok (.bipush 32, 2) := by decide +kernel
theorem dX6_fillPlane_111 : decode cX6_fillPlane 111 = .ok (.iadd, 1) := by decide +kernel
theorem dX6_fillPlane_112 : decode cX6_fillPlane 112 = .ok (.bipush 6, 2) := by decide +kernel
theorem dX6_fillPlane_114 : decode cX6_fillPlane 114 = .ok (.ishr, 1) := by decide +kernel
theorem dX6_fillPlane_115 : decode cX6_fillPlane 115 = .ok (.istore 8, 2) := by decide +kernel
theorem dX6_fillPlane_117 : decode cX6_fillPlane 117 = .ok (.bipush 16, 2) := by decide +kernel
theorem dX6_fillPlane_119 : decode cX6_fillPlane 119 = .ok (.aload_n 0, 1) := by decide +kernel
theorem dX6_fillPlane_120 : decode cX6_fillPlane 120 = .ok (.getfield 36, 3) := by decide +kernel
theorem dX6_fillPlane_123 : decode cX6_fillPlane 123 = .ok (.iload_n 2, 1) := by decide +kernel
theorem dX6_fillPlane_124 : decode cX6_fillPlane 124 = .ok (.iaload, 1) := by decide +kernel
theorem dX6_fillPlane_125 : decode cX6_fillPlane 125 = .ok (.aload_n 0, 1) := by decide +kernel
theorem dX6_fillPlane_126 : decode cX6_fillPlane 126 = .ok (.getfield 36, 3) := by decide +kernel
theorem dX6_fillPlane_129 : decode cX6_fillPlane 129 = .ok (.iconst 2, 1) := by decide +kernel
theorem dX6_fillPlane_130 : decode cX6_fillPlane 130 = .ok (.iload_n 2, 1) := by decide +kernel
theorem dX6_fillPlane_131 : decode cX6_fillPlane 131 = .ok (.imul, 1) := by decide +kernel
theorem dX6_fillPlane_132 : decode cX6_fillPlane 132 = .ok (.iconst 1, 1) := by decide +kernel
theorem dX6_fillPlane_133 : decode cX6_fillPlane 133 = .ok (.iadd, 1) := by decide +kernel
theorem dX6_fillPlane_134 : decode cX6_fillPlane 134 = .ok (.iaload, 1) := by decide +kernel
theorem dX6_fillPlane_135 : decode cX6_fillPlane 135 = .ok (.iadd, 1) := by decide +kernel
theorem dX6_fillPlane_136 : decode cX6_fillPlane 136 = .ok (.imul, 1) := by decide +kernel
theorem dX6_fillPlane_137 : decode cX6_fillPlane 137 = .ok (.istore 9, 2) := by decide +kernel
theorem dX6_fillPlane_139 : decode cX6_fillPlane 139 = .ok (.iconst 0, 1) := by decide +kernel
theorem dX6_fillPlane_140 : decode cX6_fillPlane 140 = .ok (.istore 10, 2) := by decide +kernel
theorem dX6_fillPlane_142 : decode cX6_fillPlane 142 = .ok (.iload 10, 2) := by decide +kernel
theorem dX6_fillPlane_144 : decode cX6_fillPlane 144 = .ok (.iload_n 2, 1) := by decide +kernel
theorem dX6_fillPlane_145 : decode cX6_fillPlane 145 = .ok (.iload_n 2, 1) := by decide +kernel
theorem dX6_fillPlane_146 : decode cX6_fillPlane 146 = .ok (.imul, 1) := by decide +kernel
theorem dX6_fillPlane_147 : decode cX6_fillPlane 147 = .ok (.if_icmp .ge 86, 3) := by decide +kernel
theorem dX6_fillPlane_150 : decode cX6_fillPlane 150 = .ok (.iload 10, 2) := by decide +kernel
theorem dX6_fillPlane_152 : decode cX6_fillPlane 152 = .ok (.iload_n 2, 1) := by decide +kernel
theorem dX6_fillPlane_153 : decode cX6_fillPlane 153 = .ok (.irem, 1) := by decide +kernel
theorem dX6_fillPlane_154 : decode cX6_fillPlane 154 = .ok (.iload 4, 2) := by decide +kernel
theorem dX6_fillPlane_156 : decode cX6_fillPlane 156 = .ok (.isub, 1) := by decide +kernel
theorem dX6_fillPlane_157 : decode cX6_fillPlane 157 = .ok (.iconst 1, 1) := by decide +kernel
theorem dX6_fillPlane_158 : decode cX6_fillPlane 158 = .ok (.iadd, 1) := by decide +kernel
theorem dX6_fillPlane_159 : decode cX6_fillPlane 159 = .ok (.istore 11, 2) := by decide +kernel
theorem dX6_fillPlane_161 : decode cX6_fillPlane 161 = .ok (.iload 10, 2) := by decide +kernel
theorem dX6_fillPlane_163 : decode cX6_fillPlane 163 = .ok (.iload_n 2, 1) := by decide +kernel
theorem dX6_fillPlane_164 : decode cX6_fillPlane 164 = .ok (.idiv, 1) := by decide +kernel
theorem dX6_fillPlane_165 : decode cX6_fillPlane 165 = .ok (.iload 4, 2) := by decide +kernel
theorem dX6_fillPlane_167 : decode cX6_fillPlane 167 = .ok (.isub, 1) := by decide +kernel
theorem dX6_fillPlane_168 : decode cX6_fillPlane 168 = .ok (.iconst 1, 1) := by decide +kernel
theorem dX6_fillPlane_169 : decode cX6_fillPlane 169 = .ok (.iadd, 1) := by decide +kernel
theorem dX6_fillPlane_170 : decode cX6_fillPlane 170 = .ok (.istore 12, 2) := by decide +kernel
theorem dX6_fillPlane_172 : decode cX6_fillPlane 172 = .ok (.iload 9, 2) := by decide +kernel
theorem dX6_fillPlane_174 : decode cX6_fillPlane 174 = .ok (.iload 7, 2) := by decide +kernel
theorem dX6_fillPlane_176 : decode cX6_fillPlane 176 = .ok (.iload 11, 2) := by decide +kernel
theorem dX6_fillPlane_178 : decode cX6_fillPlane 178 = .ok (.imul, 1) := by decide +kernel
theorem dX6_fillPlane_179 : decode cX6_fillPlane 179 = .ok (.iadd, 1) := by decide +kernel
theorem dX6_fillPlane_180 : decode cX6_fillPlane 180 = .ok (.iload 8, 2) := by decide +kernel
theorem dX6_fillPlane_182 : decode cX6_fillPlane 182 = .ok (.iload 12, 2) := by decide +kernel
theorem dX6_fillPlane_184 : decode cX6_fillPlane 184 = .ok (.imul, 1) := by decide +kernel
theorem dX6_fillPlane_185 : decode cX6_fillPlane 185 = .ok (.iadd, 1) := by decide +kernel
theorem dX6_fillPlane_186 : decode cX6_fillPlane 186 = .ok (.bipush 16, 2) := by decide +kernel
theorem dX6_fillPlane_188 : decode cX6_fillPlane 188 = .ok (.iadd, 1) := by decide +kernel
theorem dX6_fillPlane_189 : decode cX6_fillPlane 189 = .ok (.iconst 5, 1) := by decide +kernel
theorem dX6_fillPlane_190 : decode cX6_fillPlane 190 = .ok (.ishr, 1) := by decide +kernel
theorem dX6_fillPlane_191 : decode cX6_fillPlane 191 = .ok (.istore 13, 2) := by decide +kernel
theorem dX6_fillPlane_193 : decode cX6_fillPlane 193 = .ok (.aload_n 0, 1) := by decide +kernel
theorem dX6_fillPlane_194 : decode cX6_fillPlane 194 = .ok (.getfield 9, 3) := by decide +kernel
theorem dX6_fillPlane_197 : decode cX6_fillPlane 197 = .ok (.iload_n 1, 1) := by decide +kernel
theorem dX6_fillPlane_198 : decode cX6_fillPlane 198 = .ok (.iload 10, 2) := by decide +kernel
theorem dX6_fillPlane_200 : decode cX6_fillPlane 200 = .ok (.iadd, 1) := by decide +kernel
theorem dX6_fillPlane_201 : decode cX6_fillPlane 201 = .ok (.iload 13, 2) := by decide +kernel
theorem dX6_fillPlane_203 : decode cX6_fillPlane 203 = .ok (.ifCond .ge 7, 3) := by decide +kernel
theorem dX6_fillPlane_206 : decode cX6_fillPlane 206 = .ok (.iconst 0, 1) := by decide +kernel
theorem dX6_fillPlane_207 : decode cX6_fillPlane 207 = .ok (.goto 19, 3) := by decide +kernel
theorem dX6_fillPlane_210 : decode cX6_fillPlane 210 = .ok (.iload 13, 2) := by decide +kernel
theorem dX6_fillPlane_212 : decode cX6_fillPlane 212 = .ok (.sipush 255, 3) := by decide +kernel
theorem dX6_fillPlane_215 : decode cX6_fillPlane 215 = .ok (.if_icmp .le 9, 3) := by decide +kernel
theorem dX6_fillPlane_218 : decode cX6_fillPlane 218 = .ok (.sipush 255, 3) := by decide +kernel
theorem dX6_fillPlane_221 : decode cX6_fillPlane 221 = .ok (.goto 5, 3) := by decide +kernel
theorem dX6_fillPlane_224 : decode cX6_fillPlane 224 = .ok (.iload 13, 2) := by decide +kernel
theorem dX6_fillPlane_226 : decode cX6_fillPlane 226 = .ok (.iastore, 1) := by decide +kernel
theorem dX6_fillPlane_227 : decode cX6_fillPlane 227 = .ok (.iinc 10 1, 3) := by decide +kernel
theorem dX6_fillPlane_230 : decode cX6_fillPlane 230 = .ok (.goto (-88), 3) := by decide +kernel
theorem dX6_fillPlane_233 : decode cX6_fillPlane 233 = .ok (.return_, 1) := by decide +kernel
def FX6_fillPlane (G : GG) (M : DD) (a : Nat) (p0 : Int32) (p1 : Int32) (p2 : Int32) : Option (DD) :=
  ltt (p1 / ((2 : Int32))) fun x1 =>
  bnd (itr (fun (s3 : Int32 × Int32 × Int32) => ((if x1 < s3.2.2 then (some (.inr (s3.1, s3.2.1, s3.2.2))) else
  (ltt ((x1 + s3.2.2)) fun x46 =>
  dr G 13 ((M.2 a 8)) fun b47 =>
  chk (¬ (x46 < 0 ∨ G.2.2 b47 ≤ x46.toNatClampNeg)) <|
  ltt (M.1 b47 x46.toNatClampNeg) fun x48 =>
  ltt ((x1 - s3.2.2)) fun x49 =>
  chk (¬ (x49 < 0 ∨ G.2.2 b47 ≤ x49.toNatClampNeg)) <|
  ltt (M.1 b47 x49.toNatClampNeg) fun x50 =>
  ltt ((x48 - x50)) fun x51 =>
  ltt ((s3.2.2 * x51)) fun x52 =>
  ltt ((s3.1 + x52)) fun x53 =>
  ltt ((p1 + ((1 : Int32)))) fun x54 =>
  ltt ((x54 + x1)) fun x55 =>
  ltt ((x55 + s3.2.2)) fun x56 =>
  chk (¬ (x56 < 0 ∨ G.2.2 b47 ≤ x56.toNatClampNeg)) <|
  ltt (M.1 b47 x56.toNatClampNeg) fun x57 =>
  ltt ((p1 + ((1 : Int32)))) fun x58 =>
  ltt ((x58 + x1)) fun x59 =>
  ltt ((x59 - s3.2.2)) fun x60 =>
  chk (¬ (x60 < 0 ∨ G.2.2 b47 ≤ x60.toNatClampNeg)) <|
  ltt (M.1 b47 x60.toNatClampNeg) fun x61 =>
  ltt ((x57 - x61)) fun x62 =>
  ltt ((s3.2.2 * x62)) fun x63 =>
  ltt ((s3.2.1 + x63)) fun x64 =>
  ltt (s3.2.2 + (1 : Int32)) fun x65 =>
  some (.inl (x53, x64, x65)))) : Option ((Int32 × Int32 × Int32) ⊕ (Int32 × Int32 × Int32)))) 1000000 ((0 : Int32), (0 : Int32), (1 : Int32))) fun (y2 : Int32 × Int32 × Int32) =>
  ltt ((p2 * y2.1)) fun x5 =>
  ltt ((x5 + ((32 : Int32)))) fun x6 =>
  ltt ((x6 >>> (((6 : Int32)) &&& 31))) fun x7 =>
  ltt ((p2 * y2.2.1)) fun x8 =>
  ltt ((x8 + ((32 : Int32)))) fun x9 =>
  ltt ((x9 >>> (((6 : Int32)) &&& 31))) fun x10 =>
  dr G 13 ((M.2 a 8)) fun b11 =>
  chk (¬ (p1 < 0 ∨ G.2.2 b11 ≤ p1.toNatClampNeg)) <|
  ltt (M.1 b11 p1.toNatClampNeg) fun x12 =>
  ltt ((((2 : Int32)) * p1)) fun x13 =>
  ltt ((x13 + ((1 : Int32)))) fun x14 =>
  chk (¬ (x14 < 0 ∨ G.2.2 b11 ≤ x14.toNatClampNeg)) <|
  ltt (M.1 b11 x14.toNatClampNeg) fun x15 =>
  ltt ((x12 + x15)) fun x16 =>
  ltt ((((16 : Int32)) * x16)) fun x17 =>
  bnd (itr (fun (s19 : Int32 × DD) => ((ltt ((p1 * p1)) fun x22 =>
  if x22 ≤ s19.1 then (some (.inr (s19.1, s19.2))) else
  (chk (¬ p1 = 0) <|
  ltt (s19.1 - s19.1 / p1 * p1) fun x24 =>
  ltt ((x24 - x1)) fun x25 =>
  ltt ((x25 + ((1 : Int32)))) fun x26 =>
  chk (¬ p1 = 0) <|
  ltt (s19.1 / p1) fun x27 =>
  ltt ((x27 - x1)) fun x28 =>
  ltt ((x28 + ((1 : Int32)))) fun x29 =>
  ltt ((x7 * x26)) fun x30 =>
  ltt ((x17 + x30)) fun x31 =>
  ltt ((x10 * x29)) fun x32 =>
  ltt ((x31 + x32)) fun x33 =>
  ltt ((x33 + ((16 : Int32)))) fun x34 =>
  ltt ((x34 >>> (((5 : Int32)) &&& 31))) fun x35 =>
  ltt ((p0 + s19.1)) fun x36 =>
  bnd (if ((0 : Int32)) ≤ x35 then (bnd (if x35 ≤ ((255 : Int32)) then (some (x35)) else
  (some ((255 : Int32)))) fun (y42 : Int32) =>
  some (y42)) else
  (some ((0 : Int32)))) fun (y37 : Int32) =>
  dr G 13 ((s19.2.2 a 0)) fun b38 =>
  chk (¬ (x36 < 0 ∨ G.2.2 b38 ≤ x36.toNatClampNeg)) <|
  ltt (uI s19.2 b38 x36.toNatClampNeg y37) fun M39 =>
  ltt (s19.1 + (1 : Int32)) fun x40 =>
  some (.inl (x40, M39)))) : Option ((Int32 × DD) ⊕ (Int32 × DD)))) 1000000 ((0 : Int32), M)) fun (y18 : Int32 × DD) =>
  some y18.2
set_option maxHeartbeats 4000000 in
set_option maxRecDepth 100000 in
theorem kX6_fillPlane (l : Launch) (D : va_G) (ct : CT) (ad : Nat → Nat) (Z : Nat → Nat) (G : GG) (M : DD) (sz : Nat) (a : Nat) (p0 : Int32) (p1 : Int32) (p2 : Int32) (y : DD) (hc : a < G.1) (hk : G.2.1 a = 6) (hF : FX6_fillPlane G M a p0 p1 p2 = some y) : Met l yX6_fillPlane wuX6_fillPlane ({ frames := 0, cells := 0, slots := 0, locals := 0 }) (va_Pc [.ref (ad a), .int p0, .int p1, .int p2] (kB D ct ad Z G M sz)) (va_Qv (fun (_ : Unit) => True) (fun _ t => kE D ct ad G (wA ad G sz) y t) (wA ad G sz)) 0 0 (wA ad G sz) := by
  refine Met.ofW (cc := cX6_fillPlane) (maxL := 14) (ret := none) (by decide) rfl ?_
  intro p e s m args below meth c s₁ B hml hv
  obtain ⟨rfl, hsz, hP, hK, hD0, hZ, hN⟩ := hv
  have hx := B.exec
  have hb := B.bytes
  have hr := B.returns
  have hts := atoms_spec (ws := wuX6_fillPlane) B.pre
  have hown : s.vm.findClass RX6 = some m.cls := findClass_of_methodNamed B.named
  have hlocks := B.notSynchronized
  subst hsz
  have hD := wD_self (sz := s.heap.size) hD0
  have hA9 : ∀ q, s.heap.size ≤ q → wA ad G s.heap.size q := fun q h => Or.inr h
  generalize hAe : wA ad G s.heap.size = A at hD hA9 hZ ⊢
  have hS : va_S A s.heap s.heap [] := va_S.rf
  have hl := lv_entry ([.ref (ad a), .int p0, .int p1, .int p2]) (n := 14) (Nat.le_of_ble_eq_true rfl)
  rw [lg_entry_eq]
  generalize (lg_sl ([.ref (ad a), .int p0, .int p1, .int p2]) ++ List.replicate (14 - (lg_sl ([.ref (ad a), .int p0, .int p1, .int p2])).length) Slot.unset).toArray = ls at hl ⊢
  have hl : lv_has ls 14 [(0, .ref (ad a)), (1, .int p0), (2, .int p1), (3, .int p2)] := hl
  unfold FX6_fillPlane at hF
  refine lv_iload_n hx hb dX6_fillPlane_0 rfl (lv_at hl 2 rfl) ?_
  refine lv_iconst (v := (2 : Int32)) hx hb dX6_fillPlane_1 (by decide) ?_
  refine lv_idiv hx hb dX6_fillPlane_2 (by decide) ?_
  obtain ⟨x1, ex1, hF⟩ := ltt_some hF
  refine lv_topi (fun zx1 ezx1 => ?_)
  obtain rfl : x1 = zx1 := ex1.trans ezx1.symm
  refine lv_istore (lv' := [(4, .int x1), (0, .ref (ad a)), (1, .int p0), (2, .int p1), (3, .int p2)]) hx hb dX6_fillPlane_3 hl (by decide) rfl (fun ls hl => ?_)
  refine lv_iconst (v := (0 : Int32)) hx hb dX6_fillPlane_5 (by decide) ?_
  refine lv_istore (lv' := [(5, .int (0 : Int32)), (4, .int x1), (0, .ref (ad a)), (1, .int p0), (2, .int p1), (3, .int p2)]) hx hb dX6_fillPlane_6 hl (by decide) rfl (fun ls hl => ?_)
  refine lv_iconst (v := (0 : Int32)) hx hb dX6_fillPlane_8 (by decide) ?_
  refine lv_istore (lv' := [(6, .int (0 : Int32)), (5, .int (0 : Int32)), (4, .int x1), (0, .ref (ad a)), (1, .int p0), (2, .int p1), (3, .int p2)]) hx hb dX6_fillPlane_9 hl (by decide) rfl (fun ls hl => ?_)
  refine lv_iconst (v := (1 : Int32)) hx hb dX6_fillPlane_11 (by decide) ?_
  refine lv_istore (lv' := [(7, .int (1 : Int32)), (6, .int (0 : Int32)), (5, .int (0 : Int32)), (4, .int x1), (0, .ref (ad a)), (1, .int p0), (2, .int p1), (3, .int p2)]) hx hb dX6_fillPlane_12 hl (by decide) rfl (fun ls hl => ?_)
  obtain ⟨y2, hy2, hF⟩ := bnd_some hF
  have K2 : ∀ (H : Heap) (locs : List Loc) (ls : Array Slot), va_P D classes (wld ct ad G M) H → va_D A (wld ct ad G M) → va_S A s.heap H locs → lv_has ls 14 [(7, .int y2.2.2), (6, .int y2.2.1), (5, .int y2.1), (4, .int x1), (0, .ref (ad a)), (1, .int p0), (2, .int p1), (3, .int p2)] → W p l e (headSpec wuX6_fillPlane ({ frames := 0, cells := 0, slots := 0, locals := 0 })).room s m ([.ref (ad a), .int p0, .int p1, .int p2] : List Value).toArray below meth c H locs 0 0 (MQ below (va_Qv (fun (_ : Unit) => True) (fun _ t => kE D ct ad G A y t) A) ([.ref (ad a), .int p0, .int p1, .int p2] : List Value).toArray s 0 0 A) (F0 m 93 ls []) := by
    intro H locs ls hP hD hS hl
    refine lv_iload_n hx hb dX6_fillPlane_93 rfl (lv_at hl 7 rfl) ?_
    refine lv_iload hx hb dX6_fillPlane_94 (lv_at hl 2 rfl) ?_
    refine lv_imul hx hb dX6_fillPlane_96 ?_
    obtain ⟨x5, ex5, hF⟩ := ltt_some hF
    refine lv_topi (fun zx5 ezx5 => ?_)
    obtain rfl : x5 = zx5 := ex5.trans ezx5.symm
    refine lv_bipush (v := (32 : Int32)) hx hb dX6_fillPlane_97 (by decide) ?_
    refine lv_iadd hx hb dX6_fillPlane_99 ?_
    obtain ⟨x6, ex6, hF⟩ := ltt_some hF
    refine lv_topi (fun zx6 ezx6 => ?_)
    obtain rfl : x6 = zx6 := ex6.trans ezx6.symm
    refine lv_bipush (v := (6 : Int32)) hx hb dX6_fillPlane_100 (by decide) ?_
    refine lv_ishr hx hb dX6_fillPlane_102 ?_
    obtain ⟨x7, ex7, hF⟩ := ltt_some hF
    refine lv_topi (fun zx7 ezx7 => ?_)
    obtain rfl : x7 = zx7 := ex7.trans ezx7.symm
    refine lv_istore (lv' := [(7, .int x7), (6, .int y2.2.1), (5, .int y2.1), (4, .int x1), (0, .ref (ad a)), (1, .int p0), (2, .int p1), (3, .int p2)]) hx hb dX6_fillPlane_103 hl (by decide) rfl (fun ls hl => ?_)
    refine lv_iload_n hx hb dX6_fillPlane_105 rfl (lv_at hl 7 rfl) ?_
    refine lv_iload hx hb dX6_fillPlane_106 (lv_at hl 1 rfl) ?_
    refine lv_imul hx hb dX6_fillPlane_108 ?_
    obtain ⟨x8, ex8, hF⟩ := ltt_some hF
    refine lv_topi (fun zx8 ezx8 => ?_)
    obtain rfl : x8 = zx8 := ex8.trans ezx8.symm
    refine lv_bipush (v := (32 : Int32)) hx hb dX6_fillPlane_109 (by decide) ?_
    refine lv_iadd hx hb dX6_fillPlane_111 ?_
    obtain ⟨x9, ex9, hF⟩ := ltt_some hF
    refine lv_topi (fun zx9 ezx9 => ?_)
    obtain rfl : x9 = zx9 := ex9.trans ezx9.symm
    refine lv_bipush (v := (6 : Int32)) hx hb dX6_fillPlane_112 (by decide) ?_
    refine lv_ishr hx hb dX6_fillPlane_114 ?_
    obtain ⟨x10, ex10, hF⟩ := ltt_some hF
    refine lv_topi (fun zx10 ezx10 => ?_)
    obtain rfl : x10 = zx10 := ex10.trans ezx10.symm
    refine lv_istore (lv' := [(8, .int x10), (7, .int x7), (6, .int y2.2.1), (5, .int y2.1), (4, .int x1), (0, .ref (ad a)), (1, .int p0), (2, .int p1), (3, .int p2)]) hx hb dX6_fillPlane_115 hl (by decide) rfl (fun ls hl => ?_)
    refine lv_bipush (v := (16 : Int32)) hx hb dX6_fillPlane_117 (by decide) ?_
    refine lv_aload_n hx hb dX6_fillPlane_119 rfl (lv_at hl 5 rfl) ?_
    refine va_get (D := D) (ci := 6) (v := va_re ad (M.2 a 8)) (C := RX6) (T := TX6) (N := 14) hx hb hts (mus hf_X6) hown hK hP a (wld_o ct ad G M hc hk (by decide)) rfl 8 (by decide) (hts (.fieldLink RX6 36 "VideoSuite$Samples" "around" "[I") (mu mw_544)) (fun _ h9 => h9) rfl dX6_fillPlane_120 ?_
    refine lv_iload_n hx hb dX6_fillPlane_123 rfl (lv_at hl 7 rfl) ?_
    obtain ⟨b11, ho11, hc11, hk11, hF⟩ := dr_some hF
    refine W_st (st' := [.int p1, .ref (ad b11), .int (16 : Int32)]) (by rw [va_some ho11]) ?_
    obtain ⟨hvc, hF⟩ := chk_some hF
    refine va_iald hx hb hK hP b11 1 (wld_i ct ad G M hc11 hk11) rfl hvc dX6_fillPlane_124 ?_
    obtain ⟨x12, ex12, hF⟩ := ltt_some hF
    refine lv_topi (fun zx12 ezx12 => ?_)
    obtain rfl : x12 = zx12 := ex12.trans ezx12.symm
    refine lv_aload_n hx hb dX6_fillPlane_125 rfl (lv_at hl 5 rfl) ?_
    refine va_get (D := D) (ci := 6) (v := va_re ad (M.2 a 8)) (C := RX6) (T := TX6) (N := 14) hx hb hts (mus hf_X6) hown hK hP a (wld_o ct ad G M hc hk (by decide)) rfl 8 (by decide) (hts (.fieldLink RX6 36 "VideoSuite$Samples" "around" "[I") (mu mw_544)) (fun _ h9 => h9) rfl dX6_fillPlane_126 ?_
    refine lv_iconst (v := (2 : Int32)) hx hb dX6_fillPlane_129 (by decide) ?_
    refine lv_iload_n hx hb dX6_fillPlane_130 rfl (lv_at hl 7 rfl) ?_
    refine lv_imul hx hb dX6_fillPlane_131 ?_
    obtain ⟨x13, ex13, hF⟩ := ltt_some hF
    refine lv_topi (fun zx13 ezx13 => ?_)
    obtain rfl : x13 = zx13 := ex13.trans ezx13.symm
    refine lv_iconst (v := (1 : Int32)) hx hb dX6_fillPlane_132 (by decide) ?_
    refine lv_iadd hx hb dX6_fillPlane_133 ?_
    obtain ⟨x14, ex14, hF⟩ := ltt_some hF
    refine lv_topi (fun zx14 ezx14 => ?_)
    obtain rfl : x14 = zx14 := ex14.trans ezx14.symm
    refine W_st (st' := [.int x14, .ref (ad b11), .int x12, .int (16 : Int32)]) (by rw [va_some ho11]) ?_
    obtain ⟨hvc, hF⟩ := chk_some hF
    refine va_iald hx hb hK hP b11 1 (wld_i ct ad G M hc11 hk11) rfl hvc dX6_fillPlane_134 ?_
    obtain ⟨x15, ex15, hF⟩ := ltt_some hF
    refine lv_topi (fun zx15 ezx15 => ?_)
    obtain rfl : x15 = zx15 := ex15.trans ezx15.symm
    refine lv_iadd hx hb dX6_fillPlane_135 ?_
    obtain ⟨x16, ex16, hF⟩ := ltt_some hF
    refine lv_topi (fun zx16 ezx16 => ?_)
    obtain rfl : x16 = zx16 := ex16.trans ezx16.symm
    refine lv_imul hx hb dX6_fillPlane_136 ?_
    obtain ⟨x17, ex17, hF⟩ := ltt_some hF
    refine lv_topi (fun zx17 ezx17 => ?_)
    obtain rfl : x17 = zx17 := ex17.trans ezx17.symm
    refine lv_istore (lv' := [(9, .int x17), (8, .int x10), (7, .int x7), (6, .int y2.2.1), (5, .int y2.1), (4, .int x1), (0, .ref (ad a)), (1, .int p0), (2, .int p1), (3, .int p2)]) hx hb dX6_fillPlane_137 hl (by decide) rfl (fun ls hl => ?_)
    refine lv_iconst (v := (0 : Int32)) hx hb dX6_fillPlane_139 (by decide) ?_
    refine lv_istore (lv' := [(10, .int (0 : Int32)), (9, .int x17), (8, .int x10), (7, .int x7), (6, .int y2.2.1), (5, .int y2.1), (4, .int x1), (0, .ref (ad a)), (1, .int p0), (2, .int p1), (3, .int p2)]) hx hb dX6_fillPlane_140 hl (by decide) rfl (fun ls hl => ?_)
    obtain ⟨y18, hy18, hF⟩ := bnd_some hF
    have K18 : ∀ (H : Heap) (locs : List Loc) (ls : Array Slot), va_P D classes (wld ct ad G y18.2) H → va_D A (wld ct ad G y18.2) → va_S A s.heap H locs → lv_has ls 14 [(10, .int y18.1), (9, .int x17), (8, .int x10), (7, .int x7), (6, .int y2.2.1), (5, .int y2.1), (4, .int x1), (0, .ref (ad a)), (1, .int p0), (2, .int p1), (3, .int p2)] → W p l e (headSpec wuX6_fillPlane ({ frames := 0, cells := 0, slots := 0, locals := 0 })).room s m ([.ref (ad a), .int p0, .int p1, .int p2] : List Value).toArray below meth c H locs 0 0 (MQ below (va_Qv (fun (_ : Unit) => True) (fun _ t => kE D ct ad G A y t) A) ([.ref (ad a), .int p0, .int p1, .int p2] : List Value).toArray s 0 0 A) (F0 m 233 ls []) := by
      intro H locs ls hP hD hS hl
      obtain rfl := Option.some.inj hF
      exact W.vret hx hb hr (fun t ht hW => ⟨⟨(), rfl, trivial, ⟨by rw [ht]; exact hP, va_K.moved hW.alike hK, hD⟩⟩, hS.F ht⟩) hS.2.2 dX6_fillPlane_233
    clear hF
    refine itr_rule (fun (s19 : Int32 × DD) => ∀ (H : Heap) (locs : List Loc) (ls : Array Slot), va_P D classes (wld ct ad G s19.2) H → va_D A (wld ct ad G s19.2) → va_S A s.heap H locs → lv_has ls 14 [(10, .int s19.1), (9, .int x17), (8, .int x10), (7, .int x7), (6, .int y2.2.1), (5, .int y2.1), (4, .int x1), (0, .ref (ad a)), (1, .int p0), (2, .int p1), (3, .int p2)] → W p l e (headSpec wuX6_fillPlane ({ frames := 0, cells := 0, slots := 0, locals := 0 })).room s m ([.ref (ad a), .int p0, .int p1, .int p2] : List Value).toArray below meth c H locs 0 0 (MQ below (va_Qv (fun (_ : Unit) => True) (fun _ t => kE D ct ad G A y t) A) ([.ref (ad a), .int p0, .int p1, .int p2] : List Value).toArray s 0 0 A) (F0 m 142 ls [])) ?_ _ _ hy18 _ _ _ hP hD hS (lv_sub hl [0, 1, 2, 3, 4, 5, 6, 7, 8, 9, 10] rfl)
    rintro s19 ⟨z21, hF, hwz21⟩ H locs ls hP hD hS hl
    try dsimp only at hF
    refine lv_iload hx hb dX6_fillPlane_142 (lv_at hl 0 rfl) ?_
    refine lv_iload_n hx hb dX6_fillPlane_144 rfl (lv_at hl 9 rfl) ?_
    refine lv_iload_n hx hb dX6_fillPlane_145 rfl (lv_at hl 9 rfl) ?_
    refine lv_imul hx hb dX6_fillPlane_146 ?_
    obtain ⟨x22, ex22, hF⟩ := ltt_some hF
    refine lv_topi (fun zx22 ezx22 => ?_)
    obtain rfl : x22 = zx22 := ex22.trans ezx22.symm
    refine lv_icmp_ge (tgt := 233) hx hb dX6_fillPlane_147 (by decide) (fun c23 => ?_) (fun c23 => ?_)
    · rw [if_pos c23] at hF
      obtain rfl := Option.some.inj hF
      subst hwz21
      exact K18 _ _ _ hP hD hS (lv_sub hl [0, 1, 2, 3, 4, 5, 6, 7, 8, 9, 10] rfl)
    · rw [if_neg c23] at hF
      refine lv_iload hx hb dX6_fillPlane_150 (lv_at hl 0 rfl) ?_
      refine lv_iload_n hx hb dX6_fillPlane_152 rfl (lv_at hl 9 rfl) ?_
      obtain ⟨hne, hF⟩ := chk_some hF
      refine lv_irem hx hb dX6_fillPlane_153 hne ?_
      obtain ⟨x24, ex24, hF⟩ := ltt_some hF
      refine lv_topi (fun zx24 ezx24 => ?_)
      obtain rfl : x24 = zx24 := ex24.trans ezx24.symm
      refine lv_iload hx hb dX6_fillPlane_154 (lv_at hl 6 rfl) ?_
      refine lv_isub hx hb dX6_fillPlane_156 ?_
      obtain ⟨x25, ex25, hF⟩ := ltt_some hF
      refine lv_topi (fun zx25 ezx25 => ?_)
      obtain rfl : x25 = zx25 := ex25.trans ezx25.symm
      refine lv_iconst (v := (1 : Int32)) hx hb dX6_fillPlane_157 (by decide) ?_
      refine lv_iadd hx hb dX6_fillPlane_158 ?_
      obtain ⟨x26, ex26, hF⟩ := ltt_some hF
      refine lv_topi (fun zx26 ezx26 => ?_)
      obtain rfl : x26 = zx26 := ex26.trans ezx26.symm
      refine lv_istore (lv' := [(11, .int x26), (10, .int s19.1), (9, .int x17), (8, .int x10), (7, .int x7), (6, .int y2.2.1), (5, .int y2.1), (4, .int x1), (0, .ref (ad a)), (1, .int p0), (2, .int p1), (3, .int p2)]) hx hb dX6_fillPlane_159 hl (by decide) rfl (fun ls hl => ?_)
      refine lv_iload hx hb dX6_fillPlane_161 (lv_at hl 1 rfl) ?_
      refine lv_iload_n hx hb dX6_fillPlane_163 rfl (lv_at hl 10 rfl) ?_
      obtain ⟨hne, hF⟩ := chk_some hF
      refine lv_idiv hx hb dX6_fillPlane_164 hne ?_
      obtain ⟨x27, ex27, hF⟩ := ltt_some hF
      refine lv_topi (fun zx27 ezx27 => ?_)
      obtain rfl : x27 = zx27 := ex27.trans ezx27.symm
      refine lv_iload hx hb dX6_fillPlane_165 (lv_at hl 7 rfl) ?_
      refine lv_isub hx hb dX6_fillPlane_167 ?_
      obtain ⟨x28, ex28, hF⟩ := ltt_some hF
      refine lv_topi (fun zx28 ezx28 => ?_)
      obtain rfl : x28 = zx28 := ex28.trans ezx28.symm
      refine lv_iconst (v := (1 : Int32)) hx hb dX6_fillPlane_168 (by decide) ?_
      refine lv_iadd hx hb dX6_fillPlane_169 ?_
      obtain ⟨x29, ex29, hF⟩ := ltt_some hF
      refine lv_topi (fun zx29 ezx29 => ?_)
      obtain rfl : x29 = zx29 := ex29.trans ezx29.symm
      refine lv_istore (lv' := [(12, .int x29), (11, .int x26), (10, .int s19.1), (9, .int x17), (8, .int x10), (7, .int x7), (6, .int y2.2.1), (5, .int y2.1), (4, .int x1), (0, .ref (ad a)), (1, .int p0), (2, .int p1), (3, .int p2)]) hx hb dX6_fillPlane_170 hl (by decide) rfl (fun ls hl => ?_)
      refine lv_iload hx hb dX6_fillPlane_172 (lv_at hl 3 rfl) ?_
      refine lv_iload hx hb dX6_fillPlane_174 (lv_at hl 5 rfl) ?_
      refine lv_iload hx hb dX6_fillPlane_176 (lv_at hl 1 rfl) ?_
      refine lv_imul hx hb dX6_fillPlane_178 ?_
      obtain ⟨x30, ex30, hF⟩ := ltt_some hF
      refine lv_topi (fun zx30 ezx30 => ?_)
      obtain rfl : x30 = zx30 := ex30.trans ezx30.symm
      refine lv_iadd hx hb dX6_fillPlane_179 ?_
      obtain ⟨x31, ex31, hF⟩ := ltt_some hF
      refine lv_topi (fun zx31 ezx31 => ?_)
      obtain rfl : x31 = zx31 := ex31.trans ezx31.symm
      refine lv_iload hx hb dX6_fillPlane_180 (lv_at hl 4 rfl) ?_
      refine lv_iload hx hb dX6_fillPlane_182 (lv_at hl 0 rfl) ?_
      refine lv_imul hx hb dX6_fillPlane_184 ?_
      obtain ⟨x32, ex32, hF⟩ := ltt_some hF
      refine lv_topi (fun zx32 ezx32 => ?_)
      obtain rfl : x32 = zx32 := ex32.trans ezx32.symm
      refine lv_iadd hx hb dX6_fillPlane_185 ?_
      obtain ⟨x33, ex33, hF⟩ := ltt_some hF
      refine lv_topi (fun zx33 ezx33 => ?_)
      obtain rfl : x33 = zx33 := ex33.trans ezx33.symm
      refine lv_bipush (v := (16 : Int32)) hx hb dX6_fillPlane_186 (by decide) ?_
      refine lv_iadd hx hb dX6_fillPlane_188 ?_
      obtain ⟨x34, ex34, hF⟩ := ltt_some hF
      refine lv_topi (fun zx34 ezx34 => ?_)
      obtain rfl : x34 = zx34 := ex34.trans ezx34.symm
      refine lv_iconst (v := (5 : Int32)) hx hb dX6_fillPlane_189 (by decide) ?_
      refine lv_ishr hx hb dX6_fillPlane_190 ?_
      obtain ⟨x35, ex35, hF⟩ := ltt_some hF
      refine lv_topi (fun zx35 ezx35 => ?_)
      obtain rfl : x35 = zx35 := ex35.trans ezx35.symm
      refine lv_istore (lv' := [(13, .int x35), (12, .int x29), (11, .int x26), (10, .int s19.1), (9, .int x17), (8, .int x10), (7, .int x7), (6, .int y2.2.1), (5, .int y2.1), (4, .int x1), (0, .ref (ad a)), (1, .int p0), (2, .int p1), (3, .int p2)]) hx hb dX6_fillPlane_191 hl (by decide) rfl (fun ls hl => ?_)
      refine lv_aload_n hx hb dX6_fillPlane_193 rfl (lv_at hl 10 rfl) ?_
      refine va_get (D := D) (ci := 6) (v := va_re ad (s19.2.2 a 0)) (C := RX6) (T := TX6) (N := 14) hx hb hts (mus hf_X6) hown hK hP a (wld_o ct ad G s19.2 hc hk (by decide)) rfl 0 (by decide) (hts (.fieldLink RX6 9 "VideoSuite$Samples" "guess" "[I") (mu mw_533)) (fun _ h9 => h9) rfl dX6_fillPlane_194 ?_
      refine lv_iload_n hx hb dX6_fillPlane_197 rfl (lv_at hl 11 rfl) ?_
      refine lv_iload hx hb dX6_fillPlane_198 (lv_at hl 3 rfl) ?_
      refine lv_iadd hx hb dX6_fillPlane_200 ?_
      obtain ⟨x36, ex36, hF⟩ := ltt_some hF
      refine lv_topi (fun zx36 ezx36 => ?_)
      obtain rfl : x36 = zx36 := ex36.trans ezx36.symm
      refine lv_iload hx hb dX6_fillPlane_201 (lv_at hl 0 rfl) ?_
      obtain ⟨y37, hy37, hF⟩ := bnd_some hF
      have J37 : ∀ (H : Heap) (locs : List Loc) (ls : Array Slot), va_P D classes (wld ct ad G s19.2) H → va_D A (wld ct ad G s19.2) → va_S A s.heap H locs → lv_has ls 14 [(13, .int x35), (12, .int x29), (11, .int x26), (10, .int s19.1), (9, .int x17), (8, .int x10), (7, .int x7), (6, .int y2.2.1), (5, .int y2.1), (4, .int x1), (0, .ref (ad a)), (1, .int p0), (2, .int p1), (3, .int p2)] → W p l e (headSpec wuX6_fillPlane ({ frames := 0, cells := 0, slots := 0, locals := 0 })).room s m ([.ref (ad a), .int p0, .int p1, .int p2] : List Value).toArray below meth c H locs 0 0 (MQ below (va_Qv (fun (_ : Unit) => True) (fun _ t => kE D ct ad G A y t) A) ([.ref (ad a), .int p0, .int p1, .int p2] : List Value).toArray s 0 0 A) (F0 m 226 ls [.int y37, .int x36, va_re ad (s19.2.2 a 0)]) := by
        intro H locs ls hP hD hS hl
        obtain ⟨b38, ho38, hc38, hk38, hF⟩ := dr_some hF
        refine W_st (st' := [.int y37, .int x36, .ref (ad b38)]) (by rw [va_some ho38]) ?_
        obtain ⟨hvc, hF⟩ := chk_some hF
        refine va_iast hx hb hK hP hD hS b38 1 (wld_i ct ad G s19.2 hc38 hk38) rfl hvc dX6_fillPlane_226 (fun H locs hP hD hS => ?_)
        obtain ⟨M39, eM39, hF⟩ := ltt_some hF
        rw [set_i ct ad G s19.2 hc38 hk38, ← eM39] at hP hD
        obtain ⟨x40, ex40, hF⟩ := ltt_some hF
        refine lv_iinc (v := x40) (lv' := [(10, .int x40), (13, .int x35), (12, .int x29), (11, .int x26), (9, .int x17), (8, .int x10), (7, .int x7), (6, .int y2.2.1), (5, .int y2.1), (4, .int x1), (0, .ref (ad a)), (1, .int p0), (2, .int p1), (3, .int p2)]) hx hb dX6_fillPlane_227 hl (k := 3) rfl (by rw [ex40]; rfl) (by decide) rfl (fun ls hl => ?_)
        refine lv_goto (tgt := 142) hx hb dX6_fillPlane_230 (by decide) ?_
        obtain rfl := Option.some.inj hF
        exact hwz21 _ _ _ hP hD hS (lv_sub hl [0, 4, 5, 6, 7, 8, 9, 10, 11, 12, 13] rfl)
      clear hF
      have hF := hy37
      clear hy37
      refine lv_if_ge (tgt := 210) hx hb dX6_fillPlane_203 (by decide) (fun c41 => ?_) (fun c41 => ?_)
      · rw [if_pos c41] at hF
        refine lv_iload hx hb dX6_fillPlane_210 (lv_at hl 0 rfl) ?_
        refine lv_sipush (v := (255 : Int32)) hx hb dX6_fillPlane_212 (by decide) ?_
        obtain ⟨y42, hy42, hF⟩ := bnd_some hF
        have J42 : ∀ (H : Heap) (locs : List Loc) (ls : Array Slot), va_P D classes (wld ct ad G s19.2) H → va_D A (wld ct ad G s19.2) → va_S A s.heap H locs → lv_has ls 14 [(13, .int x35), (12, .int x29), (11, .int x26), (10, .int s19.1), (9, .int x17), (8, .int x10), (7, .int x7), (6, .int y2.2.1), (5, .int y2.1), (4, .int x1), (0, .ref (ad a)), (1, .int p0), (2, .int p1), (3, .int p2)] → W p l e (headSpec wuX6_fillPlane ({ frames := 0, cells := 0, slots := 0, locals := 0 })).room s m ([.ref (ad a), .int p0, .int p1, .int p2] : List Value).toArray below meth c H locs 0 0 (MQ below (va_Qv (fun (_ : Unit) => True) (fun _ t => kE D ct ad G A y t) A) ([.ref (ad a), .int p0, .int p1, .int p2] : List Value).toArray s 0 0 A) (F0 m 226 ls [.int y42, .int x36, va_re ad (s19.2.2 a 0)]) := by
          intro H locs ls hP hD hS hl
          obtain rfl := Option.some.inj hF
          exact J37 _ _ _ hP hD hS (lv_sub hl [0, 1, 2, 3, 4, 5, 6, 7, 8, 9, 10, 11, 12, 13] rfl)
        clear hF
        have hF := hy42
        clear hy42
        refine lv_icmp_le (tgt := 224) hx hb dX6_fillPlane_215 (by decide) (fun c43 => ?_) (fun c43 => ?_)
        · rw [if_pos c43] at hF
          refine lv_iload hx hb dX6_fillPlane_224 (lv_at hl 0 rfl) ?_
          obtain rfl := Option.some.inj hF
          exact J42 _ _ _ hP hD hS (lv_sub hl [0, 1, 2, 3, 4, 5, 6, 7, 8, 9, 10, 11, 12, 13] rfl)
        · rw [if_neg c43] at hF
          refine lv_sipush (v := (255 : Int32)) hx hb dX6_fillPlane_218 (by decide) ?_
          refine lv_goto (tgt := 226) hx hb dX6_fillPlane_221 (by decide) ?_
          obtain rfl := Option.some.inj hF
          exact J42 _ _ _ hP hD hS (lv_sub hl [0, 1, 2, 3, 4, 5, 6, 7, 8, 9, 10, 11, 12, 13] rfl)
      · rw [if_neg c41] at hF
        refine lv_iconst (v := (0 : Int32)) hx hb dX6_fillPlane_206 (by decide) ?_
        refine lv_goto (tgt := 226) hx hb dX6_fillPlane_207 (by decide) ?_
        obtain rfl := Option.some.inj hF
        exact J37 _ _ _ hP hD hS (lv_sub hl [0, 1, 2, 3, 4, 5, 6, 7, 8, 9, 10, 11, 12, 13] rfl)
  clear hF
  refine itr_rule (fun (s3 : Int32 × Int32 × Int32) => ∀ (H : Heap) (locs : List Loc) (ls : Array Slot), va_P D classes (wld ct ad G M) H → va_D A (wld ct ad G M) → va_S A s.heap H locs → lv_has ls 14 [(7, .int s3.2.2), (6, .int s3.2.1), (5, .int s3.1), (4, .int x1), (0, .ref (ad a)), (1, .int p0), (2, .int p1), (3, .int p2)] → W p l e (headSpec wuX6_fillPlane ({ frames := 0, cells := 0, slots := 0, locals := 0 })).room s m ([.ref (ad a), .int p0, .int p1, .int p2] : List Value).toArray below meth c H locs 0 0 (MQ below (va_Qv (fun (_ : Unit) => True) (fun _ t => kE D ct ad G A y t) A) ([.ref (ad a), .int p0, .int p1, .int p2] : List Value).toArray s 0 0 A) (F0 m 14 ls [])) ?_ _ _ hy2 _ _ _ hP hD hS (lv_sub hl [0, 1, 2, 3, 4, 5, 6, 7] rfl)
  rintro s3 ⟨z44, hF, hwz44⟩ H locs ls hP hD hS hl
  try dsimp only at hF
  refine lv_iload hx hb dX6_fillPlane_14 (lv_at hl 0 rfl) ?_
  refine lv_iload hx hb dX6_fillPlane_16 (lv_at hl 3 rfl) ?_
  refine lv_icmp_gt (tgt := 93) hx hb dX6_fillPlane_18 (by decide) (fun c45 => ?_) (fun c45 => ?_)
  · rw [if_pos c45] at hF
    obtain rfl := Option.some.inj hF
    subst hwz44
    exact K2 _ _ _ hP hD hS (lv_sub hl [0, 1, 2, 3, 4, 5, 6, 7] rfl)
  · rw [if_neg c45] at hF
    refine lv_iload hx hb dX6_fillPlane_21 (lv_at hl 2 rfl) ?_
    refine lv_iload hx hb dX6_fillPlane_23 (lv_at hl 0 rfl) ?_
    refine lv_aload_n hx hb dX6_fillPlane_25 rfl (lv_at hl 4 rfl) ?_
    refine va_get (D := D) (ci := 6) (v := va_re ad (M.2 a 8)) (C := RX6) (T := TX6) (N := 14) hx hb hts (mus hf_X6) hown hK hP a (wld_o ct ad G M hc hk (by decide)) rfl 8 (by decide) (hts (.fieldLink RX6 36 "VideoSuite$Samples" "around" "[I") (mu mw_544)) (fun _ h9 => h9) rfl dX6_fillPlane_26 ?_
    refine lv_iload hx hb dX6_fillPlane_29 (lv_at hl 3 rfl) ?_
    refine lv_iload hx hb dX6_fillPlane_31 (lv_at hl 0 rfl) ?_
    refine lv_iadd hx hb dX6_fillPlane_33 ?_
    obtain ⟨x46, ex46, hF⟩ := ltt_some hF
    refine lv_topi (fun zx46 ezx46 => ?_)
    obtain rfl : x46 = zx46 := ex46.trans ezx46.symm
    obtain ⟨b47, ho47, hc47, hk47, hF⟩ := dr_some hF
    refine W_st (st' := [.int x46, .ref (ad b47), .int s3.2.2, .int s3.1]) (by rw [va_some ho47]) ?_
    obtain ⟨hvc, hF⟩ := chk_some hF
    refine va_iald hx hb hK hP b47 1 (wld_i ct ad G M hc47 hk47) rfl hvc dX6_fillPlane_34 ?_
    obtain ⟨x48, ex48, hF⟩ := ltt_some hF
    refine lv_topi (fun zx48 ezx48 => ?_)
    obtain rfl : x48 = zx48 := ex48.trans ezx48.symm
    refine lv_aload_n hx hb dX6_fillPlane_35 rfl (lv_at hl 4 rfl) ?_
    refine va_get (D := D) (ci := 6) (v := va_re ad (M.2 a 8)) (C := RX6) (T := TX6) (N := 14) hx hb hts (mus hf_X6) hown hK hP a (wld_o ct ad G M hc hk (by decide)) rfl 8 (by decide) (hts (.fieldLink RX6 36 "VideoSuite$Samples" "around" "[I") (mu mw_544)) (fun _ h9 => h9) rfl dX6_fillPlane_36 ?_
    refine lv_iload hx hb dX6_fillPlane_39 (lv_at hl 3 rfl) ?_
    refine lv_iload hx hb dX6_fillPlane_41 (lv_at hl 0 rfl) ?_
    refine lv_isub hx hb dX6_fillPlane_43 ?_
    obtain ⟨x49, ex49, hF⟩ := ltt_some hF
    refine lv_topi (fun zx49 ezx49 => ?_)
    obtain rfl : x49 = zx49 := ex49.trans ezx49.symm
    refine W_st (st' := [.int x49, .ref (ad b47), .int x48, .int s3.2.2, .int s3.1]) (by rw [va_some ho47]) ?_
    obtain ⟨hvc, hF⟩ := chk_some hF
    refine va_iald hx hb hK hP b47 1 (wld_i ct ad G M hc47 hk47) rfl hvc dX6_fillPlane_44 ?_
    obtain ⟨x50, ex50, hF⟩ := ltt_some hF
    refine lv_topi (fun zx50 ezx50 => ?_)
    obtain rfl : x50 = zx50 := ex50.trans ezx50.symm
    refine lv_isub hx hb dX6_fillPlane_45 ?_
    obtain ⟨x51, ex51, hF⟩ := ltt_some hF
    refine lv_topi (fun zx51 ezx51 => ?_)
    obtain rfl : x51 = zx51 := ex51.trans ezx51.symm
    refine lv_imul hx hb dX6_fillPlane_46 ?_
    obtain ⟨x52, ex52, hF⟩ := ltt_some hF
    refine lv_topi (fun zx52 ezx52 => ?_)
    obtain rfl : x52 = zx52 := ex52.trans ezx52.symm
    refine lv_iadd hx hb dX6_fillPlane_47 ?_
    obtain ⟨x53, ex53, hF⟩ := ltt_some hF
    refine lv_topi (fun zx53 ezx53 => ?_)
    obtain rfl : x53 = zx53 := ex53.trans ezx53.symm
    refine lv_istore (lv' := [(5, .int x53), (7, .int s3.2.2), (6, .int s3.2.1), (4, .int x1), (0, .ref (ad a)), (1, .int p0), (2, .int p1), (3, .int p2)]) hx hb dX6_fillPlane_48 hl (by decide) rfl (fun ls hl => ?_)
    refine lv_iload hx hb dX6_fillPlane_50 (lv_at hl 2 rfl) ?_
    refine lv_iload hx hb dX6_fillPlane_52 (lv_at hl 1 rfl) ?_
    refine lv_aload_n hx hb dX6_fillPlane_54 rfl (lv_at hl 4 rfl) ?_
    refine va_get (D := D) (ci := 6) (v := va_re ad (M.2 a 8)) (C := RX6) (T := TX6) (N := 14) hx hb hts (mus hf_X6) hown hK hP a (wld_o ct ad G M hc hk (by decide)) rfl 8 (by decide) (hts (.fieldLink RX6 36 "VideoSuite$Samples" "around" "[I") (mu mw_544)) (fun _ h9 => h9) rfl dX6_fillPlane_55 ?_
    refine lv_iload_n hx hb dX6_fillPlane_58 rfl (lv_at hl 6 rfl) ?_
    refine lv_iconst (v := (1 : Int32)) hx hb dX6_fillPlane_59 (by decide) ?_
    refine lv_iadd hx hb dX6_fillPlane_60 ?_
    obtain ⟨x54, ex54, hF⟩ := ltt_some hF
    refine lv_topi (fun zx54 ezx54 => ?_)
    obtain rfl : x54 = zx54 := ex54.trans ezx54.symm
    refine lv_iload hx hb dX6_fillPlane_61 (lv_at hl 3 rfl) ?_
    refine lv_iadd hx hb dX6_fillPlane_63 ?_
    obtain ⟨x55, ex55, hF⟩ := ltt_some hF
    refine lv_topi (fun zx55 ezx55 => ?_)
    obtain rfl : x55 = zx55 := ex55.trans ezx55.symm
    refine lv_iload hx hb dX6_fillPlane_64 (lv_at hl 1 rfl) ?_
    refine lv_iadd hx hb dX6_fillPlane_66 ?_
    obtain ⟨x56, ex56, hF⟩ := ltt_some hF
    refine lv_topi (fun zx56 ezx56 => ?_)
    obtain rfl : x56 = zx56 := ex56.trans ezx56.symm
    refine W_st (st' := [.int x56, .ref (ad b47), .int s3.2.2, .int s3.2.1]) (by rw [va_some ho47]) ?_
    obtain ⟨hvc, hF⟩ := chk_some hF
    refine va_iald hx hb hK hP b47 1 (wld_i ct ad G M hc47 hk47) rfl hvc dX6_fillPlane_67 ?_
    obtain ⟨x57, ex57, hF⟩ := ltt_some hF
    refine lv_topi (fun zx57 ezx57 => ?_)
    obtain rfl : x57 = zx57 := ex57.trans ezx57.symm
    refine lv_aload_n hx hb dX6_fillPlane_68 rfl (lv_at hl 4 rfl) ?_
    refine va_get (D := D) (ci := 6) (v := va_re ad (M.2 a 8)) (C := RX6) (T := TX6) (N := 14) hx hb hts (mus hf_X6) hown hK hP a (wld_o ct ad G M hc hk (by decide)) rfl 8 (by decide) (hts (.fieldLink RX6 36 "VideoSuite$Samples" "around" "[I") (mu mw_544)) (fun _ h9 => h9) rfl dX6_fillPlane_69 ?_
    refine lv_iload_n hx hb dX6_fillPlane_72 rfl (lv_at hl 6 rfl) ?_
    refine lv_iconst (v := (1 : Int32)) hx hb dX6_fillPlane_73 (by decide) ?_
    refine lv_iadd hx hb dX6_fillPlane_74 ?_
    obtain ⟨x58, ex58, hF⟩ := ltt_some hF
    refine lv_topi (fun zx58 ezx58 => ?_)
    obtain rfl : x58 = zx58 := ex58.trans ezx58.symm
    refine lv_iload hx hb dX6_fillPlane_75 (lv_at hl 3 rfl) ?_
    refine lv_iadd hx hb dX6_fillPlane_77 ?_
    obtain ⟨x59, ex59, hF⟩ := ltt_some hF
    refine lv_topi (fun zx59 ezx59 => ?_)
    obtain rfl : x59 = zx59 := ex59.trans ezx59.symm
    refine lv_iload hx hb dX6_fillPlane_78 (lv_at hl 1 rfl) ?_
    refine lv_isub hx hb dX6_fillPlane_80 ?_
    obtain ⟨x60, ex60, hF⟩ := ltt_some hF
    refine lv_topi (fun zx60 ezx60 => ?_)
    obtain rfl : x60 = zx60 := ex60.trans ezx60.symm
    refine W_st (st' := [.int x60, .ref (ad b47), .int x57, .int s3.2.2, .int s3.2.1]) (by rw [va_some ho47]) ?_
    obtain ⟨hvc, hF⟩ := chk_some hF
    refine va_iald hx hb hK hP b47 1 (wld_i ct ad G M hc47 hk47) rfl hvc dX6_fillPlane_81 ?_
    obtain ⟨x61, ex61, hF⟩ := ltt_some hF
    refine lv_topi (fun zx61 ezx61 => ?_)
    obtain rfl : x61 = zx61 := ex61.trans ezx61.symm
    refine lv_isub hx hb dX6_fillPlane_82 ?_
    obtain ⟨x62, ex62, hF⟩ := ltt_some hF
    refine lv_topi (fun zx62 ezx62 => ?_)
    obtain rfl : x62 = zx62 := ex62.trans ezx62.symm
    refine lv_imul hx hb dX6_fillPlane_83 ?_
    obtain ⟨x63, ex63, hF⟩ := ltt_some hF
    refine lv_topi (fun zx63 ezx63 => ?_)
    obtain rfl : x63 = zx63 := ex63.trans ezx63.symm
    refine lv_iadd hx hb dX6_fillPlane_84 ?_
    obtain ⟨x64, ex64, hF⟩ := ltt_some hF
    refine lv_topi (fun zx64 ezx64 => ?_)
    obtain rfl : x64 = zx64 := ex64.trans ezx64.symm
    refine lv_istore (lv' := [(6, .int x64), (5, .int x53), (7, .int s3.2.2), (4, .int x1), (0, .ref (ad a)), (1, .int p0), (2, .int p1), (3, .int p2)]) hx hb dX6_fillPlane_85 hl (by decide) rfl (fun ls hl => ?_)
    obtain ⟨x65, ex65, hF⟩ := ltt_some hF
    refine lv_iinc (v := x65) (lv' := [(7, .int x65), (6, .int x64), (5, .int x53), (4, .int x1), (0, .ref (ad a)), (1, .int p0), (2, .int p1), (3, .int p2)]) hx hb dX6_fillPlane_87 hl (k := 2) rfl (by rw [ex65]; rfl) (by decide) rfl (fun ls hl => ?_)
    refine lv_goto (tgt := 14) hx hb dX6_fillPlane_90 (by decide) ?_
    obtain rfl := Option.some.inj hF
    exact hwz44 _ _ _ hP hD hS (lv_sub hl [0, 1, 2, 3, 4, 5, 6, 7] rfl)
theorem dX6_fillWindow_0 : decode cX6_fillWindow 0 = .ok (.aload_n 1, 1) := by decide +kernel
theorem dX6_fillWindow_1 : decode cX6_fillWindow 1 = .ok (.getfield 121, 3) := by decide +kernel
theorem dX6_fillWindow_4 : decode cX6_fillWindow 4 = .ok (.iconst 0, 1) := by decide +kernel
theorem dX6_fillWindow_5 : decode cX6_fillWindow 5 = .ok (.aaload, 1) := by decide +kernel
theorem dX6_fillWindow_6 : decode cX6_fillWindow 6 = .ok (.astore 5, 2) := by decide +kernel
theorem dX6_fillWindow_8 : decode cX6_fillWindow 8 = .ok (.bipush 16, 2) := by decide +kernel
theorem dX6_fillWindow_10 : decode cX6_fillWindow 10 = .ok (.aload_n 1, 1) := by decide +kernel
theorem dX6_fillWindow_11 : decode cX6_fillWindow 11 = .ok (.getfield 83, 3) := by decide +kernel
theorem dX6_fillWindow_14 : decode cX6_fillWindow 14 = .ok (.imul, 1) := by decide +kernel
theorem dX6_fillWindow_15 : decode cX6_fillWindow 15 = .ok (.istore 6, 2) := by decide +kernel
theorem dX6_fillWindow_17 : decode cX6_fillWindow 17 = .ok (.bipush 16, 2) := by decide +kernel
theorem dX6_fillWindow_19 : decode cX6_fillWindow 19 = .ok (.aload_n 1, 1) := by decide +kernel
theorem dX6_fillWindow_20 : decode cX6_fillWindow 20 = .ok (.getfield 125, 3) := by decide +kernel
theorem dX6_fillWindow_23 : decode cX6_fillWindow 23 = .ok (.imul, 1) := by decide +kernel
theorem dX6_fillWindow_24 : decode cX6_fillWindow 24 = .ok (.istore 7, 2) := by decide +kernel
theorem dX6_fillWindow_26 : decode cX6_fillWindow 26 = .ok (.iconst 0, 1) := by decide +kernel
theorem dX6_fillWindow_27 : decode cX6_fillWindow 27 = .ok (.istore 8, 2) := by decide +kernel
theorem dX6_fillWindow_29 : decode cX6_fillWindow 29 = .ok (.iload 8, 2) := by decide +kernel
theorem dX6_fillWindow_31 : decode cX6_fillWindow 31 = .ok (.iload 4, 2) := by decide +kernel
theorem dX6_fillWindow_33 : decode cX6_fillWindow 33 = .ok (.if_icmp .ge 111, 3) := by decide +kernel
theorem dX6_fillWindow_36 : decode cX6_fillWindow 36 = .ok (.iload_n 3, 1) := by decide +kernel
theorem dX6_fillWindow_37 : decode cX6_fillWindow 37 = .ok (.iload 8, 2) := by decide +kernel
theorem dX6_fillWindow_39 : decode cX6_fillWindow 39 = .ok (.iadd, 1) := by decide +kernel
theorem dX6_fillWindow_40 : decode cX6_fillWindow 40 = .ok (.istore 9, 2) := by decide +kernel
theorem dX6_fillWindow_42 : decode cX6_fillWindow 42 = .ok (.iload 9, 2) := by decide +kernel
theorem dX6_fillWindow_44 : decode cX6_fillWindow 44 = .ok (.ifCond .ge 7, 3) := by decide +kernel
theorem dX6_fillWindow_47 : decode cX6_fillWindow 47 = .ok (.iconst 0, 1) := by decide +kernel
theorem dX6_fillWindow_48 : decode cX6_fillWindow 48 = .ok (.goto 19, 3) := by decide +kernel
theorem dX6_fillWindow_51 : decode cX6_fillWindow 51 = .ok (.iload 9, 2) := by decide +kernel
theorem dX6_fillWindow_53 : decode cX6_fillWindow 53 = .ok (.iload 7, 2) := by decide +kernel
theorem dX6_fillWindow_55 : decode cX6_fillWindow 55 = .ok (.if_icmp .lt 10, 3) := by decide +kernel
theorem dX6_fillWindow_58 : decode cX6_fillWindow 58 = .ok (.iload 7, 2) := by decide +kernel
theorem dX6_fillWindow_60 : decode cX6_fillWindow 60 = .ok (.iconst 1, 1) := by decide +kernel
theorem dX6_fillWindow_61 : decode cX6_fillWindow 61 = .ok (.isub, 1) := by decide +kernel
theorem dX6_fillWindow_62 : decode cX6_fillWindow 62 = .ok (.goto 5, 3) := by decide +kernel
theorem dX6_fillWindow_65 : decode cX6_fillWindow 65 = .ok (.iload 9, 2) := by decide +kernel
theorem dX6_fillWindow_67 : decode cX6_fillWindow 67 = .ok (.iload 6, 2) := by decide +kernel
theorem dX6_fillWindow_69 : decode cX6_fillWindow 69 = .ok (.imul, 1) := by decide +kernel
theorem dX6_fillWindow_70 : decode cX6_fillWindow 70 = .ok (.istore 10, 2) := by decide +kernel
theorem dX6_fillWindow_72 : decode cX6_fillWindow 72 = .ok (.iconst 0, 1) := by decide +kernel
theorem dX6_fillWindow_73 : decode cX6_fillWindow 73 = .ok (.istore 11, 2) := by decide +kernel
theorem dX6_fillWindow_75 : decode cX6_fillWindow 75 = .ok (.iload 11, 2) := by decide +kernel
theorem dX6_fillWindow_77 : decode cX6_fillWindow 77 = .ok (.iload 4, 2) := by decide +kernel
theorem dX6_fillWindow_79 : decode cX6_fillWindow 79 = .ok (.if_icmp .ge 59, 3) := by decide +kernel
theorem dX6_fillWindow_82 : decode cX6_fillWindow 82 = .ok (.iload_n 2, 1) := by decide +kernel
theorem dX6_fillWindow_83 : decode cX6_fillWindow 83 = .ok (.iload 11, 2) := by decide +kernel
theorem dX6_fillWindow_85 : decode cX6_fillWindow 85 = .ok (.iadd, 1) := by decide +kernel
theorem dX6_fillWindow_86 : decode cX6_fillWindow 86 = .ok (.istore 12, 2) := by decide +kernel
theorem dX6_fillWindow_88 : decode cX6_fillWindow 88 = .ok (.aload_n 0, 1) := by decide +kernel
theorem dX6_fillWindow_89 : decode cX6_fillWindow 89 = .ok (.getfield 21, 3) := by decide +kernel
theorem dX6_fillWindow_92 : decode cX6_fillWindow 92 = .ok (.iload 8, 2) := by decide +kernel
theorem dX6_fillWindow_94 : decode cX6_fillWindow 94 = .ok (.bipush 21, 2) := by decide +kernel
theorem dX6_fillWindow_96 : decode cX6_fillWindow 96 = .ok (.imul, 1) := by decide +kernel
theorem dX6_fillWindow_97 : decode cX6_fillWindow 97 = .ok (.iload 11, 2) := by decide +kernel
theorem dX6_fillWindow_99 : decode cX6_fillWindow 99 = .ok (.iadd, 1) := by decide +kernel
theorem dX6_fillWindow_100 : decode cX6_fillWindow 100 = .ok (.aload 5, 2) := by decide +kernel
theorem dX6_fillWindow_102 : decode cX6_fillWindow 102 = .ok (.iload 10, 2) := by decide +kernel
theorem dX6_fillWindow_104 : decode cX6_fillWindow 104 = .ok (.iload 12, 2) := by decide +kernel
theorem dX6_fillWindow_106 : decode cX6_fillWindow 106 = .ok (.ifCond .ge 7, 3) := by decide +kernel
theorem dX6_fillWindow_109 : decode cX6_fillWindow 109 = .ok (.iconst 0, 1) := by decide +kernel
theorem dX6_fillWindow_110 : decode cX6_fillWindow 110 = .ok (.goto 19, 3) := by decide +kernel
theorem dX6_fillWindow_113 : decode cX6_fillWindow 113 = .ok (.iload 12, 2) := by decide +kernel
theorem dX6_fillWindow_115 : decode cX6_fillWindow 115 = .ok (.iload 6, 2) := by decide +kernel
theorem dX6_fillWindow_117 : decode cX6_fillWindow 117 = .ok (.if_icmp .lt 10, 3) := by decide +kernel
theorem dX6_fillWindow_120 : decode cX6_fillWindow 120 = .ok (.iload 6, 2) := by decide +kernel
theorem dX6_fillWindow_122 : decode cX6_fillWindow 122 = .ok (.iconst 1, 1) := by decide +kernel
theorem dX6_fillWindow_123 : decode cX6_fillWindow 123 = .ok (.isub, 1) := by decide +kernel
theorem dX6_fillWindow_124 : decode cX6_fillWindow 124 = .ok (.goto 5, 3) := by decide +kernel
theorem dX6_fillWindow_127 : decode cX6_fillWindow 127 = .ok (.iload 12, 2) := by decide +kernel
theorem dX6_fillWindow_129 : decode cX6_fillWindow 129 = .ok (.iadd, 1) := by decide +kernel
theorem dX6_fillWindow_130 : decode cX6_fillWindow 130 = .ok (.iaload, 1) := by decide +kernel
theorem dX6_fillWindow_131 : decode cX6_fillWindow 131 = .ok (.iastore, 1) := by decide +kernel
theorem dX6_fillWindow_132 : decode cX6_fillWindow 132 = .ok (.iinc 11 1, 3) := by decide +kernel
theorem dX6_fillWindow_135 : decode cX6_fillWindow 135 = .ok (.goto (-60), 3) := by decide +kernel
theorem dX6_fillWindow_138 : decode cX6_fillWindow 138 = .ok (.iinc 8 1, 3) := by decide +kernel
theorem dX6_fillWindow_141 : decode cX6_fillWindow 141 = .ok (.goto (-112), 3) := by decide +kernel
theorem dX6_fillWindow_144 : decode cX6_fillWindow 144 = .ok (.return_, 1) := by decide +kernel
def FX6_fillWindow (G : GG) (M : DD) (a : Nat) (p0 : Option Nat) (p1 : Int32) (p2 : Int32) (p3 : Int32) : Option (DD) :=
  dr G 4 p0 fun b1 =>
  dr G 15 ((M.2 b1 4)) fun b2 =>
  chk (¬ (((0 : Int32)) < 0 ∨ G.2.2 b2 ≤ ((0 : Int32)).toNatClampNeg)) <|
  ltt (M.1 b1 1) fun x3 =>
  ltt ((((16 : Int32)) * x3)) fun x4 =>
  ltt (M.1 b1 2) fun x5 =>
  ltt ((((16 : Int32)) * x5)) fun x6 =>
  bnd (itr (fun (s8 : Int32 × DD) => ((if p3 ≤ s8.1 then (some (.inr (s8.1, s8.2))) else
  (ltt ((p2 + s8.1)) fun x12 =>
  bnd (if ((0 : Int32)) ≤ x12 then (bnd (if x12 < x6 then (some (x12)) else
  (ltt ((x6 - ((1 : Int32)))) fun x38 =>
  some (x38))) fun (y36 : Int32) =>
  some (y36)) else
  (some ((0 : Int32)))) fun (y13 : Int32) =>
  ltt ((y13 * x4)) fun x14 =>
  bnd (itr (fun (s16 : Int32 × DD) => ((if p3 ≤ s16.1 then (some (.inr (s16.1, s16.2))) else
  (ltt ((p1 + s16.1)) fun x21 =>
  ltt ((s8.1 * ((21 : Int32)))) fun x22 =>
  ltt ((x22 + s16.1)) fun x23 =>
  bnd (if ((0 : Int32)) ≤ x21 then (bnd (if x21 < x4 then (some (x21)) else
  (ltt ((x4 - ((1 : Int32)))) fun x34 =>
  some (x34))) fun (y32 : Int32) =>
  some (y32)) else
  (some ((0 : Int32)))) fun (y24 : Int32) =>
  ltt ((x14 + y24)) fun x25 =>
  dr G 13 ((M.2 b2 ((0 : Int32)).toNatClampNeg)) fun b26 =>
  chk (¬ (x25 < 0 ∨ G.2.2 b26 ≤ x25.toNatClampNeg)) <|
  ltt (s16.2.1 b26 x25.toNatClampNeg) fun x27 =>
  dr G 13 ((s16.2.2 a 3)) fun b28 =>
  chk (¬ (x23 < 0 ∨ G.2.2 b28 ≤ x23.toNatClampNeg)) <|
  ltt (uI s16.2 b28 x23.toNatClampNeg x27) fun M29 =>
  ltt (s16.1 + (1 : Int32)) fun x30 =>
  some (.inl (x30, M29)))) : Option ((Int32 × DD) ⊕ (Int32 × DD)))) 1000000 ((0 : Int32), s8.2)) fun (y15 : Int32 × DD) =>
  ltt (s8.1 + (1 : Int32)) fun x18 =>
  some (.inl (x18, y15.2)))) : Option ((Int32 × DD) ⊕ (Int32 × DD)))) 1000000 ((0 : Int32), M)) fun (y7 : Int32 × DD) =>
  some y7.2
set_option maxHeartbeats 4000000 in
set_option maxRecDepth 100000 in
theorem kX6_fillWindow (l : Launch) (D : va_G) (ct : CT) (ad : Nat → Nat) (Z : Nat → Nat) (G : GG) (M : DD) (sz : Nat) (a : Nat) (p0 : Option Nat) (p1 : Int32) (p2 : Int32) (p3 : Int32) (y : DD) (hc : a < G.1) (hk : G.2.1 a = 6) (hF : FX6_fillWindow G M a p0 p1 p2 p3 = some y) : Met l yX6_fillWindow wuX6_fillWindow ({ frames := 0, cells := 0, slots := 0, locals := 0 }) (va_Pc [.ref (ad a), va_re ad p0, .int p1, .int p2, .int p3] (kB D ct ad Z G M sz)) (va_Qv (fun (_ : Unit) => True) (fun _ t => kE D ct ad G (wA ad G sz) y t) (wA ad G sz)) 0 0 (wA ad G sz) := by
  refine Met.ofW (cc := cX6_fillWindow) (maxL := 13) (ret := none) (by decide) rfl ?_
  intro p e s m args below meth c s₁ B hml hv
  obtain ⟨rfl, hsz, hP, hK, hD0, hZ, hN⟩ := hv
  have hx := B.exec
  have hb := B.bytes
  have hr := B.returns
  have hts := atoms_spec (ws := wuX6_fillWindow) B.pre
  have hown : s.vm.findClass RX6 = some m.cls := findClass_of_methodNamed B.named
  have hlocks := B.notSynchronized
  subst hsz
  have hD := wD_self (sz := s.heap.size) hD0
  have hA9 : ∀ q, s.heap.size ≤ q → wA ad G s.heap.size q := fun q h => Or.inr h
  generalize hAe : wA ad G s.heap.size = A at hD hA9 hZ ⊢
  have hS : va_S A s.heap s.heap [] := va_S.rf
  have hl := lv_entry ([.ref (ad a), va_re ad p0, .int p1, .int p2, .int p3]) (n := 13) (by cases p0 <;> exact Nat.le_of_ble_eq_true rfl)
  rw [lg_entry_eq]
  generalize (lg_sl ([.ref (ad a), va_re ad p0, .int p1, .int p2, .int p3]) ++ List.replicate (13 - (lg_sl ([.ref (ad a), va_re ad p0, .int p1, .int p2, .int p3])).length) Slot.unset).toArray = ls at hl ⊢
  have hl : lv_has ls 13 [(0, .ref (ad a)), (1, va_re ad p0), (2, .int p1), (3, .int p2), (4, .int p3)] := by have e9 : lv_args 0 [.ref (ad a), va_re ad p0, .int p1, .int p2, .int p3] = [(0, .ref (ad a)), (1, va_re ad p0), (2, .int p1), (3, .int p2), (4, .int p3)] := (by cases p0 <;> rfl); rw [e9] at hl; exact hl
  unfold FX6_fillWindow at hF
  refine lv_aloadq_n hx hb dX6_fillWindow_0 rfl (lv_at hl 1 rfl) ?_
  obtain ⟨b1, ho1, hc1, hk1, hF⟩ := dr_some hF
  refine W_st (st' := [.ref (ad b1)]) (by rw [va_some ho1]) ?_
  refine va_get (D := D) (ci := 4) (v := va_re ad (M.2 b1 4)) (C := RX4) (T := TX4) (N := 18) hx hb hts (mus hf_X4) hown hK hP b1 (wld_o ct ad G M hc1 hk1 (by decide)) rfl 4 (by decide) (hts (.fieldLink RX6 121 "VideoSuite$Picture" "plane" "[[I") (mu mw_1433)) (fun _ h9 => h9) rfl dX6_fillWindow_1 ?_
  refine lv_iconst (v := (0 : Int32)) hx hb dX6_fillWindow_4 (by decide) ?_
  obtain ⟨b2, ho2, hc2, hk2, hF⟩ := dr_some hF
  refine W_st (st' := [.int (0 : Int32), .ref (ad b2)]) (by rw [va_some ho2]) ?_
  obtain ⟨hvc, hF⟩ := chk_some hF
  refine ld_g hx hb hK hP hc2 hk2 hvc dX6_fillWindow_5 ?_
  refine lv_astoreq (lv' := [(5, va_re ad (M.2 b2 ((0 : Int32)).toNatClampNeg)), (0, .ref (ad a)), (1, va_re ad p0), (2, .int p1), (3, .int p2), (4, .int p3)]) hx hb dX6_fillWindow_6 hl (by decide) rfl (fun ls hl => ?_)
  refine lv_bipush (v := (16 : Int32)) hx hb dX6_fillWindow_8 (by decide) ?_
  refine lv_aloadq_n hx hb dX6_fillWindow_10 rfl (lv_at hl 2 rfl) ?_
  refine W_st (st' := [.ref (ad b1), .int (16 : Int32)]) (by rw [va_some ho1]) ?_
  refine va_get (D := D) (ci := 4) (v := .int (M.1 b1 1)) (C := RX4) (T := TX4) (N := 18) hx hb hts (mus hf_X4) hown hK hP b1 (wld_o ct ad G M hc1 hk1 (by decide)) rfl 1 (by decide) (hts (.fieldLink RX6 83 "VideoSuite$Picture" "width" "I") (mu mw_1422)) (fun _ h9 => h9) rfl dX6_fillWindow_11 ?_
  obtain ⟨x3, ex3, hF⟩ := ltt_some hF
  refine lv_topi (fun zx3 ezx3 => ?_)
  obtain rfl : x3 = zx3 := ex3.trans ezx3.symm
  refine lv_imul hx hb dX6_fillWindow_14 ?_
  obtain ⟨x4, ex4, hF⟩ := ltt_some hF
  refine lv_topi (fun zx4 ezx4 => ?_)
  obtain rfl : x4 = zx4 := ex4.trans ezx4.symm
  refine lv_istore (lv' := [(6, .int x4), (5, va_re ad (M.2 b2 ((0 : Int32)).toNatClampNeg)), (0, .ref (ad a)), (1, va_re ad p0), (2, .int p1), (3, .int p2), (4, .int p3)]) hx hb dX6_fillWindow_15 hl (by decide) (by generalize ((M.2 b2 ((0 : Int32)).toNatClampNeg)) = o9; cases o9 <;> rfl) (fun ls hl => ?_)
  refine lv_bipush (v := (16 : Int32)) hx hb dX6_fillWindow_17 (by decide) ?_
  refine lv_aloadq_n hx hb dX6_fillWindow_19 rfl (lv_at hl 3 rfl) ?_
  refine W_st (st' := [.ref (ad b1), .int (16 : Int32)]) (by rw [va_some ho1]) ?_
  refine va_get (D := D) (ci := 4) (v := .int (M.1 b1 2)) (C := RX4) (T := TX4) (N := 18) hx hb hts (mus hf_X4) hown hK hP b1 (wld_o ct ad G M hc1 hk1 (by decide)) rfl 2 (by decide) (hts (.fieldLink RX6 125 "VideoSuite$Picture" "height" "I") (mu mw_1426)) (fun _ h9 => h9) rfl dX6_fillWindow_20 ?_
  obtain ⟨x5, ex5, hF⟩ := ltt_some hF
  refine lv_topi (fun zx5 ezx5 => ?_)
  obtain rfl : x5 = zx5 := ex5.trans ezx5.symm
  refine lv_imul hx hb dX6_fillWindow_23 ?_
  obtain ⟨x6, ex6, hF⟩ := ltt_some hF
  refine lv_topi (fun zx6 ezx6 => ?_)
  obtain rfl : x6 = zx6 := ex6.trans ezx6.symm
  refine lv_istore (lv' := [(7, .int x6), (6, .int x4), (5, va_re ad (M.2 b2 ((0 : Int32)).toNatClampNeg)), (0, .ref (ad a)), (1, va_re ad p0), (2, .int p1), (3, .int p2), (4, .int p3)]) hx hb dX6_fillWindow_24 hl (by decide) rfl (fun ls hl => ?_)
  refine lv_iconst (v := (0 : Int32)) hx hb dX6_fillWindow_26 (by decide) ?_
  refine lv_istore (lv' := [(8, .int (0 : Int32)), (7, .int x6), (6, .int x4), (5, va_re ad (M.2 b2 ((0 : Int32)).toNatClampNeg)), (0, .ref (ad a)), (1, va_re ad p0), (2, .int p1), (3, .int p2), (4, .int p3)]) hx hb dX6_fillWindow_27 hl (by decide) rfl (fun ls hl => ?_)
  obtain ⟨y7, hy7, hF⟩ := bnd_some hF
  have K7 : ∀ (H : Heap) (locs : List Loc) (ls : Array Slot), va_P D classes (wld ct ad G y7.2) H → va_D A (wld ct ad G y7.2) → va_S A s.heap H locs → lv_has ls 13 [(8, .int y7.1), (7, .int x6), (6, .int x4), (5, va_re ad (M.2 b2 ((0 : Int32)).toNatClampNeg)), (0, .ref (ad a)), (1, va_re ad p0), (2, .int p1), (3, .int p2), (4, .int p3)] → W p l e (headSpec wuX6_fillWindow ({ frames := 0, cells := 0, slots := 0, locals := 0 })).room s m ([.ref (ad a), va_re ad p0, .int p1, .int p2, .int p3] : List Value).toArray below meth c H locs 0 0 (MQ below (va_Qv (fun (_ : Unit) => True) (fun _ t => kE D ct ad G A y t) A) ([.ref (ad a), va_re ad p0, .int p1, .int p2, .int p3] : List Value).toArray s 0 0 A) (F0 m 144 ls []) := by
    intro H locs ls hP hD hS hl
    obtain rfl := Option.some.inj hF
    exact W.vret hx hb hr (fun t ht hW => ⟨⟨(), rfl, trivial, ⟨by rw [ht]; exact hP, va_K.moved hW.alike hK, hD⟩⟩, hS.F ht⟩) hS.2.2 dX6_fillWindow_144
  clear hF
  refine itr_rule (fun (s8 : Int32 × DD) => ∀ (H : Heap) (locs : List Loc) (ls : Array Slot), va_P D classes (wld ct ad G s8.2) H → va_D A (wld ct ad G s8.2) → va_S A s.heap H locs → lv_has ls 13 [(8, .int s8.1), (7, .int x6), (6, .int x4), (5, va_re ad (M.2 b2 ((0 : Int32)).toNatClampNeg)), (0, .ref (ad a)), (1, va_re ad p0), (2, .int p1), (3, .int p2), (4, .int p3)] → W p l e (headSpec wuX6_fillWindow ({ frames := 0, cells := 0, slots := 0, locals := 0 })).room s m ([.ref (ad a), va_re ad p0, .int p1, .int p2, .int p3] : List Value).toArray below meth c H locs 0 0 (MQ below (va_Qv (fun (_ : Unit) => True) (fun _ t => kE D ct ad G A y t) A) ([.ref (ad a), va_re ad p0, .int p1, .int p2, .int p3] : List Value).toArray s 0 0 A) (F0 m 29 ls [])) ?_ _ _ hy7 _ _ _ hP hD hS (lv_sub hl [0, 1, 2, 3, 4, 5, 6, 7, 8] rfl)
  rintro s8 ⟨z10, hF, hwz10⟩ H locs ls hP hD hS hl
  try dsimp only at hF
  refine lv_iload hx hb dX6_fillWindow_29 (lv_at hl 0 rfl) ?_
  refine lv_iload hx hb dX6_fillWindow_31 (lv_at hl 8 rfl) ?_
  refine lv_icmp_ge (tgt := 144) hx hb dX6_fillWindow_33 (by decide) (fun c11 => ?_) (fun c11 => ?_)
  · rw [if_pos c11] at hF
    obtain rfl := Option.some.inj hF
    subst hwz10
    exact K7 _ _ _ hP hD hS (lv_sub hl [0, 1, 2, 3, 4, 5, 6, 7, 8] rfl)
  · rw [if_neg c11] at hF
    refine lv_iload_n hx hb dX6_fillWindow_36 rfl (lv_at hl 7 rfl) ?_
    refine lv_iload hx hb dX6_fillWindow_37 (lv_at hl 0 rfl) ?_
    refine lv_iadd hx hb dX6_fillWindow_39 ?_
    obtain ⟨x12, ex12, hF⟩ := ltt_some hF
    refine lv_topi (fun zx12 ezx12 => ?_)
    obtain rfl : x12 = zx12 := ex12.trans ezx12.symm
    refine lv_istore (lv' := [(9, .int x12), (8, .int s8.1), (7, .int x6), (6, .int x4), (5, va_re ad (M.2 b2 ((0 : Int32)).toNatClampNeg)), (0, .ref (ad a)), (1, va_re ad p0), (2, .int p1), (3, .int p2), (4, .int p3)]) hx hb dX6_fillWindow_40 hl (by decide) rfl (fun ls hl => ?_)
    refine lv_iload hx hb dX6_fillWindow_42 (lv_at hl 0 rfl) ?_
    obtain ⟨y13, hy13, hF⟩ := bnd_some hF
    have J13 : ∀ (H : Heap) (locs : List Loc) (ls : Array Slot), va_P D classes (wld ct ad G s8.2) H → va_D A (wld ct ad G s8.2) → va_S A s.heap H locs → lv_has ls 13 [(9, .int x12), (8, .int s8.1), (7, .int x6), (6, .int x4), (5, va_re ad (M.2 b2 ((0 : Int32)).toNatClampNeg)), (0, .ref (ad a)), (1, va_re ad p0), (2, .int p1), (3, .int p2), (4, .int p3)] → W p l e (headSpec wuX6_fillWindow ({ frames := 0, cells := 0, slots := 0, locals := 0 })).room s m ([.ref (ad a), va_re ad p0, .int p1, .int p2, .int p3] : List Value).toArray below meth c H locs 0 0 (MQ below (va_Qv (fun (_ : Unit) => True) (fun _ t => kE D ct ad G A y t) A) ([.ref (ad a), va_re ad p0, .int p1, .int p2, .int p3] : List Value).toArray s 0 0 A) (F0 m 67 ls [.int y13]) := by
      intro H locs ls hP hD hS hl
      refine lv_iload hx hb dX6_fillWindow_67 (lv_at hl 3 rfl) ?_
      refine lv_imul hx hb dX6_fillWindow_69 ?_
      obtain ⟨x14, ex14, hF⟩ := ltt_some hF
      refine lv_topi (fun zx14 ezx14 => ?_)
      obtain rfl : x14 = zx14 := ex14.trans ezx14.symm
      refine lv_istore (lv' := [(10, .int x14), (9, .int x12), (8, .int s8.1), (7, .int x6), (6, .int x4), (5, va_re ad (M.2 b2 ((0 : Int32)).toNatClampNeg)), (0, .ref (ad a)), (1, va_re ad p0), (2, .int p1), (3, .int p2), (4, .int p3)]) hx hb dX6_fillWindow_70 hl (by decide) rfl (fun ls hl => ?_)
      refine lv_iconst (v := (0 : Int32)) hx hb dX6_fillWindow_72 (by decide) ?_
      refine lv_istore (lv' := [(11, .int (0 : Int32)), (10, .int x14), (9, .int x12), (8, .int s8.1), (7, .int x6), (6, .int x4), (5, va_re ad (M.2 b2 ((0 : Int32)).toNatClampNeg)), (0, .ref (ad a)), (1, va_re ad p0), (2, .int p1), (3, .int p2), (4, .int p3)]) hx hb dX6_fillWindow_73 hl (by decide) rfl (fun ls hl => ?_)
      obtain ⟨y15, hy15, hF⟩ := bnd_some hF
      have K15 : ∀ (H : Heap) (locs : List Loc) (ls : Array Slot), va_P D classes (wld ct ad G y15.2) H → va_D A (wld ct ad G y15.2) → va_S A s.heap H locs → lv_has ls 13 [(11, .int y15.1), (10, .int x14), (9, .int x12), (8, .int s8.1), (7, .int x6), (6, .int x4), (5, va_re ad (M.2 b2 ((0 : Int32)).toNatClampNeg)), (0, .ref (ad a)), (1, va_re ad p0), (2, .int p1), (3, .int p2), (4, .int p3)] → W p l e (headSpec wuX6_fillWindow ({ frames := 0, cells := 0, slots := 0, locals := 0 })).room s m ([.ref (ad a), va_re ad p0, .int p1, .int p2, .int p3] : List Value).toArray below meth c H locs 0 0 (MQ below (va_Qv (fun (_ : Unit) => True) (fun _ t => kE D ct ad G A y t) A) ([.ref (ad a), va_re ad p0, .int p1, .int p2, .int p3] : List Value).toArray s 0 0 A) (F0 m 138 ls []) := by
        intro H locs ls hP hD hS hl
        obtain ⟨x18, ex18, hF⟩ := ltt_some hF
        refine lv_iinc (v := x18) (lv' := [(8, .int x18), (11, .int y15.1), (10, .int x14), (9, .int x12), (7, .int x6), (6, .int x4), (5, va_re ad (M.2 b2 ((0 : Int32)).toNatClampNeg)), (0, .ref (ad a)), (1, va_re ad p0), (2, .int p1), (3, .int p2), (4, .int p3)]) hx hb dX6_fillWindow_138 hl (k := 3) rfl (by rw [ex18]; rfl) (by decide) rfl (fun ls hl => ?_)
        refine lv_goto (tgt := 29) hx hb dX6_fillWindow_141 (by decide) ?_
        obtain rfl := Option.some.inj hF
        exact hwz10 _ _ _ hP hD hS (lv_sub hl [0, 4, 5, 6, 7, 8, 9, 10, 11] rfl)
      clear hF
      refine itr_rule (fun (s16 : Int32 × DD) => ∀ (H : Heap) (locs : List Loc) (ls : Array Slot), va_P D classes (wld ct ad G s16.2) H → va_D A (wld ct ad G s16.2) → va_S A s.heap H locs → lv_has ls 13 [(11, .int s16.1), (10, .int x14), (9, .int x12), (8, .int s8.1), (7, .int x6), (6, .int x4), (5, va_re ad (M.2 b2 ((0 : Int32)).toNatClampNeg)), (0, .ref (ad a)), (1, va_re ad p0), (2, .int p1), (3, .int p2), (4, .int p3)] → W p l e (headSpec wuX6_fillWindow ({ frames := 0, cells := 0, slots := 0, locals := 0 })).room s m ([.ref (ad a), va_re ad p0, .int p1, .int p2, .int p3] : List Value).toArray below meth c H locs 0 0 (MQ below (va_Qv (fun (_ : Unit) => True) (fun _ t => kE D ct ad G A y t) A) ([.ref (ad a), va_re ad p0, .int p1, .int p2, .int p3] : List Value).toArray s 0 0 A) (F0 m 75 ls [])) ?_ _ _ hy15 _ _ _ hP hD hS (lv_sub hl [0, 1, 2, 3, 4, 5, 6, 7, 8, 9, 10, 11] rfl)
      rintro s16 ⟨z19, hF, hwz19⟩ H locs ls hP hD hS hl
      try dsimp only at hF
      refine lv_iload hx hb dX6_fillWindow_75 (lv_at hl 0 rfl) ?_
      refine lv_iload hx hb dX6_fillWindow_77 (lv_at hl 11 rfl) ?_
      refine lv_icmp_ge (tgt := 138) hx hb dX6_fillWindow_79 (by decide) (fun c20 => ?_) (fun c20 => ?_)
      · rw [if_pos c20] at hF
        obtain rfl := Option.some.inj hF
        subst hwz19
        exact K15 _ _ _ hP hD hS (lv_sub hl [0, 1, 2, 3, 4, 5, 6, 7, 8, 9, 10, 11] rfl)
      · rw [if_neg c20] at hF
        refine lv_iload_n hx hb dX6_fillWindow_82 rfl (lv_at hl 9 rfl) ?_
        refine lv_iload hx hb dX6_fillWindow_83 (lv_at hl 0 rfl) ?_
        refine lv_iadd hx hb dX6_fillWindow_85 ?_
        obtain ⟨x21, ex21, hF⟩ := ltt_some hF
        refine lv_topi (fun zx21 ezx21 => ?_)
        obtain rfl : x21 = zx21 := ex21.trans ezx21.symm
        refine lv_istore (lv' := [(12, .int x21), (11, .int s16.1), (10, .int x14), (9, .int x12), (8, .int s8.1), (7, .int x6), (6, .int x4), (5, va_re ad (M.2 b2 ((0 : Int32)).toNatClampNeg)), (0, .ref (ad a)), (1, va_re ad p0), (2, .int p1), (3, .int p2), (4, .int p3)]) hx hb dX6_fillWindow_86 hl (by decide) rfl (fun ls hl => ?_)
        refine lv_aload_n hx hb dX6_fillWindow_88 rfl (lv_at hl 8 rfl) ?_
        refine va_get (D := D) (ci := 6) (v := va_re ad (s16.2.2 a 3)) (C := RX6) (T := TX6) (N := 14) hx hb hts (mus hf_X6) hown hK hP a (wld_o ct ad G s16.2 hc hk (by decide)) rfl 3 (by decide) (hts (.fieldLink RX6 21 "VideoSuite$Samples" "window" "[I") (mu mw_538)) (fun _ h9 => h9) rfl dX6_fillWindow_89 ?_
        refine lv_iload hx hb dX6_fillWindow_92 (lv_at hl 4 rfl) ?_
        refine lv_bipush (v := (21 : Int32)) hx hb dX6_fillWindow_94 (by decide) ?_
        refine lv_imul hx hb dX6_fillWindow_96 ?_
        obtain ⟨x22, ex22, hF⟩ := ltt_some hF
        refine lv_topi (fun zx22 ezx22 => ?_)
        obtain rfl : x22 = zx22 := ex22.trans ezx22.symm
        refine lv_iload hx hb dX6_fillWindow_97 (lv_at hl 1 rfl) ?_
        refine lv_iadd hx hb dX6_fillWindow_99 ?_
        obtain ⟨x23, ex23, hF⟩ := ltt_some hF
        refine lv_topi (fun zx23 ezx23 => ?_)
        obtain rfl : x23 = zx23 := ex23.trans ezx23.symm
        refine lv_aloadq hx hb dX6_fillWindow_100 (lv_at hl 7 rfl) ?_
        refine lv_iload hx hb dX6_fillWindow_102 (lv_at hl 2 rfl) ?_
        refine lv_iload hx hb dX6_fillWindow_104 (lv_at hl 0 rfl) ?_
        obtain ⟨y24, hy24, hF⟩ := bnd_some hF
        have J24 : ∀ (H : Heap) (locs : List Loc) (ls : Array Slot), va_P D classes (wld ct ad G s16.2) H → va_D A (wld ct ad G s16.2) → va_S A s.heap H locs → lv_has ls 13 [(12, .int x21), (11, .int s16.1), (10, .int x14), (9, .int x12), (8, .int s8.1), (7, .int x6), (6, .int x4), (5, va_re ad (M.2 b2 ((0 : Int32)).toNatClampNeg)), (0, .ref (ad a)), (1, va_re ad p0), (2, .int p1), (3, .int p2), (4, .int p3)] → W p l e (headSpec wuX6_fillWindow ({ frames := 0, cells := 0, slots := 0, locals := 0 })).room s m ([.ref (ad a), va_re ad p0, .int p1, .int p2, .int p3] : List Value).toArray below meth c H locs 0 0 (MQ below (va_Qv (fun (_ : Unit) => True) (fun _ t => kE D ct ad G A y t) A) ([.ref (ad a), va_re ad p0, .int p1, .int p2, .int p3] : List Value).toArray s 0 0 A) (F0 m 129 ls [.int y24, .int x14, va_re ad (M.2 b2 ((0 : Int32)).toNatClampNeg), .int x23, va_re ad (s16.2.2 a 3)]) := by
          intro H locs ls hP hD hS hl
          refine lv_iadd hx hb dX6_fillWindow_129 ?_
          obtain ⟨x25, ex25, hF⟩ := ltt_some hF
          refine lv_topi (fun zx25 ezx25 => ?_)
          obtain rfl : x25 = zx25 := ex25.trans ezx25.symm
          obtain ⟨b26, ho26, hc26, hk26, hF⟩ := dr_some hF
          refine W_st (st' := [.int x25, .ref (ad b26), .int x23, va_re ad (s16.2.2 a 3)]) (by rw [va_some ho26]) ?_
          obtain ⟨hvc, hF⟩ := chk_some hF
          refine va_iald hx hb hK hP b26 1 (wld_i ct ad G s16.2 hc26 hk26) rfl hvc dX6_fillWindow_130 ?_
          obtain ⟨x27, ex27, hF⟩ := ltt_some hF
          refine lv_topi (fun zx27 ezx27 => ?_)
          obtain rfl : x27 = zx27 := ex27.trans ezx27.symm
          obtain ⟨b28, ho28, hc28, hk28, hF⟩ := dr_some hF
          refine W_st (st' := [.int x27, .int x23, .ref (ad b28)]) (by rw [va_some ho28]) ?_
          obtain ⟨hvc, hF⟩ := chk_some hF
          refine va_iast hx hb hK hP hD hS b28 1 (wld_i ct ad G s16.2 hc28 hk28) rfl hvc dX6_fillWindow_131 (fun H locs hP hD hS => ?_)
          obtain ⟨M29, eM29, hF⟩ := ltt_some hF
          rw [set_i ct ad G s16.2 hc28 hk28, ← eM29] at hP hD
          obtain ⟨x30, ex30, hF⟩ := ltt_some hF
          refine lv_iinc (v := x30) (lv' := [(11, .int x30), (12, .int x21), (10, .int x14), (9, .int x12), (8, .int s8.1), (7, .int x6), (6, .int x4), (5, va_re ad (M.2 b2 ((0 : Int32)).toNatClampNeg)), (0, .ref (ad a)), (1, va_re ad p0), (2, .int p1), (3, .int p2), (4, .int p3)]) hx hb dX6_fillWindow_132 hl (k := 1) rfl (by rw [ex30]; rfl) (by decide) rfl (fun ls hl => ?_)
          refine lv_goto (tgt := 75) hx hb dX6_fillWindow_135 (by decide) ?_
          obtain rfl := Option.some.inj hF
          exact hwz19 _ _ _ hP hD hS (lv_sub hl [0, 2, 3, 4, 5, 6, 7, 8, 9, 10, 11, 12] rfl)
        clear hF
        have hF := hy24
        clear hy24
        refine lv_if_ge (tgt := 113) hx hb dX6_fillWindow_106 (by decide) (fun c31 => ?_) (fun c31 => ?_)
        · rw [if_pos c31] at hF
          refine lv_iload hx hb dX6_fillWindow_113 (lv_at hl 0 rfl) ?_
          refine lv_iload hx hb dX6_fillWindow_115 (lv_at hl 6 rfl) ?_
          obtain ⟨y32, hy32, hF⟩ := bnd_some hF
          have J32 : ∀ (H : Heap) (locs : List Loc) (ls : Array Slot), va_P D classes (wld ct ad G s16.2) H → va_D A (wld ct ad G s16.2) → va_S A s.heap H locs → lv_has ls 13 [(12, .int x21), (11, .int s16.1), (10, .int x14), (9, .int x12), (8, .int s8.1), (7, .int x6), (6, .int x4), (5, va_re ad (M.2 b2 ((0 : Int32)).toNatClampNeg)), (0, .ref (ad a)), (1, va_re ad p0), (2, .int p1), (3, .int p2), (4, .int p3)] → W p l e (headSpec wuX6_fillWindow ({ frames := 0, cells := 0, slots := 0, locals := 0 })).room s m ([.ref (ad a), va_re ad p0, .int p1, .int p2, .int p3] : List Value).toArray below meth c H locs 0 0 (MQ below (va_Qv (fun (_ : Unit) => True) (fun _ t => kE D ct ad G A y t) A) ([.ref (ad a), va_re ad p0, .int p1, .int p2, .int p3] : List Value).toArray s 0 0 A) (F0 m 129 ls [.int y32, .int x14, va_re ad (M.2 b2 ((0 : Int32)).toNatClampNeg), .int x23, va_re ad (s16.2.2 a 3)]) := by
            intro H locs ls hP hD hS hl
            obtain rfl := Option.some.inj hF
            exact J24 _ _ _ hP hD hS (lv_sub hl [0, 1, 2, 3, 4, 5, 6, 7, 8, 9, 10, 11, 12] rfl)
          clear hF
          have hF := hy32
          clear hy32
          refine lv_icmp_lt (tgt := 127) hx hb dX6_fillWindow_117 (by decide) (fun c33 => ?_) (fun c33 => ?_)
          · rw [if_pos c33] at hF
            refine lv_iload hx hb dX6_fillWindow_127 (lv_at hl 0 rfl) ?_
            obtain rfl := Option.some.inj hF
            exact J32 _ _ _ hP hD hS (lv_sub hl [0, 1, 2, 3, 4, 5, 6, 7, 8, 9, 10, 11, 12] rfl)
          · rw [if_neg c33] at hF
            refine lv_iload hx hb dX6_fillWindow_120 (lv_at hl 6 rfl) ?_
            refine lv_iconst (v := (1 : Int32)) hx hb dX6_fillWindow_122 (by decide) ?_
            refine lv_isub hx hb dX6_fillWindow_123 ?_
            obtain ⟨x34, ex34, hF⟩ := ltt_some hF
            refine lv_topi (fun zx34 ezx34 => ?_)
            obtain rfl : x34 = zx34 := ex34.trans ezx34.symm
            refine lv_goto (tgt := 129) hx hb dX6_fillWindow_124 (by decide) ?_
            obtain rfl := Option.some.inj hF
            exact J32 _ _ _ hP hD hS (lv_sub hl [0, 1, 2, 3, 4, 5, 6, 7, 8, 9, 10, 11, 12] rfl)
        · rw [if_neg c31] at hF
          refine lv_iconst (v := (0 : Int32)) hx hb dX6_fillWindow_109 (by decide) ?_
          refine lv_goto (tgt := 129) hx hb dX6_fillWindow_110 (by decide) ?_
          obtain rfl := Option.some.inj hF
          exact J24 _ _ _ hP hD hS (lv_sub hl [0, 1, 2, 3, 4, 5, 6, 7, 8, 9, 10, 11, 12] rfl)
    clear hF
    have hF := hy13
    clear hy13
    refine lv_if_ge (tgt := 51) hx hb dX6_fillWindow_44 (by decide) (fun c35 => ?_) (fun c35 => ?_)
    · rw [if_pos c35] at hF
      refine lv_iload hx hb dX6_fillWindow_51 (lv_at hl 0 rfl) ?_
      refine lv_iload hx hb dX6_fillWindow_53 (lv_at hl 2 rfl) ?_
      obtain ⟨y36, hy36, hF⟩ := bnd_some hF
      have J36 : ∀ (H : Heap) (locs : List Loc) (ls : Array Slot), va_P D classes (wld ct ad G s8.2) H → va_D A (wld ct ad G s8.2) → va_S A s.heap H locs → lv_has ls 13 [(9, .int x12), (8, .int s8.1), (7, .int x6), (6, .int x4), (5, va_re ad (M.2 b2 ((0 : Int32)).toNatClampNeg)), (0, .ref (ad a)), (1, va_re ad p0), (2, .int p1), (3, .int p2), (4, .int p3)] → W p l e (headSpec wuX6_fillWindow ({ frames := 0, cells := 0, slots := 0, locals := 0 })).room s m ([.ref (ad a), va_re ad p0, .int p1, .int p2, .int p3] : List Value).toArray below meth c H locs 0 0 (MQ below (va_Qv (fun (_ : Unit) => True) (fun _ t => kE D ct ad G A y t) A) ([.ref (ad a), va_re ad p0, .int p1, .int p2, .int p3] : List Value).toArray s 0 0 A) (F0 m 67 ls [.int y36]) := by
        intro H locs ls hP hD hS hl
        obtain rfl := Option.some.inj hF
        exact J13 _ _ _ hP hD hS (lv_sub hl [0, 1, 2, 3, 4, 5, 6, 7, 8, 9] rfl)
      clear hF
      have hF := hy36
      clear hy36
      refine lv_icmp_lt (tgt := 65) hx hb dX6_fillWindow_55 (by decide) (fun c37 => ?_) (fun c37 => ?_)
      · rw [if_pos c37] at hF
        refine lv_iload hx hb dX6_fillWindow_65 (lv_at hl 0 rfl) ?_
        obtain rfl := Option.some.inj hF
        exact J36 _ _ _ hP hD hS (lv_sub hl [0, 1, 2, 3, 4, 5, 6, 7, 8, 9] rfl)
      · rw [if_neg c37] at hF
        refine lv_iload hx hb dX6_fillWindow_58 (lv_at hl 2 rfl) ?_
        refine lv_iconst (v := (1 : Int32)) hx hb dX6_fillWindow_60 (by decide) ?_
        refine lv_isub hx hb dX6_fillWindow_61 ?_
        obtain ⟨x38, ex38, hF⟩ := ltt_some hF
        refine lv_topi (fun zx38 ezx38 => ?_)
        obtain rfl : x38 = zx38 := ex38.trans ezx38.symm
        refine lv_goto (tgt := 67) hx hb dX6_fillWindow_62 (by decide) ?_
        obtain rfl := Option.some.inj hF
        exact J36 _ _ _ hP hD hS (lv_sub hl [0, 1, 2, 3, 4, 5, 6, 7, 8, 9] rfl)
    · rw [if_neg c35] at hF
      refine lv_iconst (v := (0 : Int32)) hx hb dX6_fillWindow_47 (by decide) ?_
      refine lv_goto (tgt := 67) hx hb dX6_fillWindow_48 (by decide) ?_
      obtain rfl := Option.some.inj hF
      exact J13 _ _ _ hP hD hS (lv_sub hl [0, 1, 2, 3, 4, 5, 6, 7, 8, 9] rfl)
theorem dX6_init_0 : decode cX6_init 0 = .ok (.aload_n 0, 1) := by decide +kernel
theorem dX6_init_1 : decode cX6_init 1 = .ok (.invokespecial 3, 3) := by decide +kernel
theorem dX6_init_4 : decode cX6_init 4 = .ok (.aload_n 0, 1) := by decide +kernel
theorem dX6_init_5 : decode cX6_init 5 = .ok (.sipush 384, 3) := by decide +kernel
theorem dX6_init_8 : decode cX6_init 8 = .ok (.newarray .int, 2) := by decide +kernel
theorem dX6_init_10 : decode cX6_init 10 = .ok (.putfield 9, 3) := by decide +kernel
theorem dX6_init_13 : decode cX6_init 13 = .ok (.aload_n 0, 1) := by decide +kernel
theorem dX6_init_14 : decode cX6_init 14 = .ok (.sipush 384, 3) := by decide +kernel
theorem dX6_init_17 : decode cX6_init 17 = .ok (.newarray .int, 2) := by decide +kernel
theorem dX6_init_19 : decode cX6_init 19 = .ok (.putfield 15, 3) := by decide +kernel
theorem dX6_init_22 : decode cX6_init 22 = .ok (.aload_n 0, 1) := by decide +kernel
theorem dX6_init_23 : decode cX6_init 23 = .ok (.sipush 384, 3) := by decide +kernel
theorem dX6_init_26 : decode cX6_init 26 = .ok (.newarray .int, 2) := by decide +kernel
theorem dX6_init_28 : decode cX6_init 28 = .ok (.putfield 18, 3) := by decide +kernel
theorem dX6_init_31 : decode cX6_init 31 = .ok (.aload_n 0, 1) := by decide +kernel
theorem dX6_init_32 : decode cX6_init 32 = .ok (.sipush 441, 3) := by decide +kernel
theorem dX6_init_35 : decode cX6_init 35 = .ok (.newarray .int, 2) := by decide +kernel
theorem dX6_init_37 : decode cX6_init 37 = .ok (.putfield 21, 3) := by decide +kernel
theorem dX6_init_40 : decode cX6_init 40 = .ok (.aload_n 0, 1) := by decide +kernel
theorem dX6_init_41 : decode cX6_init 41 = .ok (.sipush 336, 3) := by decide +kernel
theorem dX6_init_44 : decode cX6_init 44 = .ok (.newarray .int, 2) := by decide +kernel
theorem dX6_init_46 : decode cX6_init 46 = .ok (.putfield 24, 3) := by decide +kernel
theorem dX6_init_49 : decode cX6_init 49 = .ok (.aload_n 0, 1) := by decide +kernel
theorem dX6_init_50 : decode cX6_init 50 = .ok (.bipush 6, 2) := by decide +kernel
theorem dX6_init_52 : decode cX6_init 52 = .ok (.newarray .int, 2) := by decide +kernel
theorem dX6_init_54 : decode cX6_init 54 = .ok (.putfield 27, 3) := by decide +kernel
theorem dX6_init_57 : decode cX6_init 57 = .ok (.aload_n 0, 1) := by decide +kernel
theorem dX6_init_58 : decode cX6_init 58 = .ok (.bipush 16, 2) := by decide +kernel
theorem dX6_init_60 : decode cX6_init 60 = .ok (.newarray .int, 2) := by decide +kernel
theorem dX6_init_62 : decode cX6_init 62 = .ok (.putfield 30, 3) := by decide +kernel
theorem dX6_init_65 : decode cX6_init 65 = .ok (.aload_n 0, 1) := by decide +kernel
theorem dX6_init_66 : decode cX6_init 66 = .ok (.bipush 16, 2) := by decide +kernel
theorem dX6_init_68 : decode cX6_init 68 = .ok (.newarray .int, 2) := by decide +kernel
theorem dX6_init_70 : decode cX6_init 70 = .ok (.putfield 33, 3) := by decide +kernel
theorem dX6_init_73 : decode cX6_init 73 = .ok (.aload_n 0, 1) := by decide +kernel
theorem dX6_init_74 : decode cX6_init 74 = .ok (.bipush 34, 2) := by decide +kernel
theorem dX6_init_76 : decode cX6_init 76 = .ok (.newarray .int, 2) := by decide +kernel
theorem dX6_init_78 : decode cX6_init 78 = .ok (.putfield 36, 3) := by decide +kernel
theorem dX6_init_81 : decode cX6_init 81 = .ok (.return_, 1) := by decide +kernel
noncomputable def FX6_init (G : GG) (M : DD) (a : Nat)  : Option (NN × DD) :=
  chkP (Clo (xt G []) M) <|
  chk (¬ ((384 : Int32)) < 0 ∧ ((384 : Int32)).toNatClampNeg * 4 ≤ 536870912) <|
  ltt ((xt G []).1) fun c2 =>
  app [(13, ((384 : Int32)).toNatClampNeg)] <|
  ltt ([] ++ [(13, ((384 : Int32)).toNatClampNeg)]) fun L4 =>
  ltt (rO M c2) fun M5 =>
  ltt (uP M5 a 0 (some c2)) fun M8 =>
  chkP (Clo (xt G L4) M8) <|
  chk (¬ ((384 : Int32)) < 0 ∧ ((384 : Int32)).toNatClampNeg * 4 ≤ 536870912) <|
  ltt ((xt G L4).1) fun c10 =>
  app [(13, ((384 : Int32)).toNatClampNeg)] <|
  ltt (L4 ++ [(13, ((384 : Int32)).toNatClampNeg)]) fun L12 =>
  ltt (rO M8 c10) fun M13 =>
  ltt (uP M13 a 1 (some c10)) fun M16 =>
  chkP (Clo (xt G L12) M16) <|
  chk (¬ ((384 : Int32)) < 0 ∧ ((384 : Int32)).toNatClampNeg * 4 ≤ 536870912) <|
  ltt ((xt G L12).1) fun c18 =>
  app [(13, ((384 : Int32)).toNatClampNeg)] <|
  ltt (L12 ++ [(13, ((384 : Int32)).toNatClampNeg)]) fun L20 =>
  ltt (rO M16 c18) fun M21 =>
  ltt (uP M21 a 2 (some c18)) fun M24 =>
  chkP (Clo (xt G L20) M24) <|
  chk (¬ ((441 : Int32)) < 0 ∧ ((441 : Int32)).toNatClampNeg * 4 ≤ 536870912) <|
  ltt ((xt G L20).1) fun c26 =>
  app [(13, ((441 : Int32)).toNatClampNeg)] <|
  ltt (L20 ++ [(13, ((441 : Int32)).toNatClampNeg)]) fun L28 =>
  ltt (rO M24 c26) fun M29 =>
  ltt (uP M29 a 3 (some c26)) fun M32 =>
  chkP (Clo (xt G L28) M32) <|
  chk (¬ ((336 : Int32)) < 0 ∧ ((336 : Int32)).toNatClampNeg * 4 ≤ 536870912) <|
  ltt ((xt G L28).1) fun c34 =>
  app [(13, ((336 : Int32)).toNatClampNeg)] <|
  ltt (L28 ++ [(13, ((336 : Int32)).toNatClampNeg)]) fun L36 =>
  ltt (rO M32 c34) fun M37 =>
  ltt (uP M37 a 4 (some c34)) fun M40 =>
  chkP (Clo (xt G L36) M40) <|
  chk (¬ ((6 : Int32)) < 0 ∧ ((6 : Int32)).toNatClampNeg * 4 ≤ 536870912) <|
  ltt ((xt G L36).1) fun c42 =>
  app [(13, ((6 : Int32)).toNatClampNeg)] <|
  ltt (L36 ++ [(13, ((6 : Int32)).toNatClampNeg)]) fun L44 =>
  ltt (rO M40 c42) fun M45 =>
  ltt (uP M45 a 5 (some c42)) fun M48 =>
  chkP (Clo (xt G L44) M48) <|
  chk (¬ ((16 : Int32)) < 0 ∧ ((16 : Int32)).toNatClampNeg * 4 ≤ 536870912) <|
  ltt ((xt G L44).1) fun c50 =>
  app [(13, ((16 : Int32)).toNatClampNeg)] <|
  ltt (L44 ++ [(13, ((16 : Int32)).toNatClampNeg)]) fun L52 =>
  ltt (rO M48 c50) fun M53 =>
  ltt (uP M53 a 6 (some c50)) fun M56 =>
  chkP (Clo (xt G L52) M56) <|
  chk (¬ ((16 : Int32)) < 0 ∧ ((16 : Int32)).toNatClampNeg * 4 ≤ 536870912) <|
  ltt ((xt G L52).1) fun c58 =>
  app [(13, ((16 : Int32)).toNatClampNeg)] <|
  ltt (L52 ++ [(13, ((16 : Int32)).toNatClampNeg)]) fun L60 =>
  ltt (rO M56 c58) fun M61 =>
  ltt (uP M61 a 7 (some c58)) fun M64 =>
  chkP (Clo (xt G L60) M64) <|
  chk (¬ ((34 : Int32)) < 0 ∧ ((34 : Int32)).toNatClampNeg * 4 ≤ 536870912) <|
  ltt ((xt G L60).1) fun c66 =>
  app [(13, ((34 : Int32)).toNatClampNeg)] <|
  ltt (L60 ++ [(13, ((34 : Int32)).toNatClampNeg)]) fun L68 =>
  ltt (rO M64 c66) fun M69 =>
  ltt (uP M69 a 8 (some c66)) fun M72 =>
  some ([], M72)
set_option maxHeartbeats 4000000 in
set_option maxRecDepth 100000 in
theorem kX6_init (l : Launch) (D : va_G) (ct : CT) (ad : Nat → Nat) (Z : Nat → Nat) (G : GG) (M : DD) (sz : Nat) (a : Nat)  (y : NN × DD) (hc : a < G.1) (hk : G.2.1 a = 6) (hF : FX6_init G M a  = some y) : Met l yX6_init wuX6_init ({ frames := 1, cells := y.1.length, slots := wt y.1, locals := 20 }) (va_Pc [.ref (ad a)] (kB D ct ad Z G M sz)) (va_Qv (fun (u : Nat → Nat) => agr G.1 ad u) (fun u t => kE D ct u (xt G y.1) (wA ad G sz) y.2 t) (wA ad G sz)) y.1.length (wt y.1) (wA ad G sz) := by
  refine Met.ofW (cc := cX6_init) (maxL := 1) (ret := none) (by decide) rfl ?_
  intro p e s m args below meth c s₁ B hml hv
  obtain ⟨rfl, hsz, hP, hK, hD0, hZ, hN⟩ := hv
  have hx := B.exec
  have hb := B.bytes
  have hr := B.returns
  have hts := atoms_spec (ws := wuX6_init) B.pre
  have hown : s.vm.findClass RX6 = some m.cls := findClass_of_methodNamed B.named
  have hlocks := B.notSynchronized
  have hin : meth.name = "<init>" := (name_of_methodNamed B.named B.method).1
  subst hsz
  have hD := wD_self (sz := s.heap.size) hD0
  have hA9 : ∀ q, s.heap.size ≤ q → wA ad G s.heap.size q := fun q h => Or.inr h
  generalize hAe : wA ad G s.heap.size = A at hD hA9 hZ ⊢
  have hS : va_S A s.heap s.heap [] := va_S.rf
  have hl := lv_entry ([.ref (ad a)]) (n := 1) (Nat.le_of_ble_eq_true rfl)
  rw [lg_entry_eq]
  generalize (lg_sl ([.ref (ad a)]) ++ List.replicate (1 - (lg_sl ([.ref (ad a)])).length) Slot.unset).toArray = ls at hl ⊢
  have hl : lv_has ls 1 [(0, .ref (ad a))] := hl
  unfold FX6_init at hF
  rw [← wld_0 ct ad G M] at hP hD
  have hk := xt_k0 hc hk
  have hc := xt_l0 hc
  have hag := agr_rf G.1 ad
  obtain ⟨w0, hw0⟩ : ∃ z, z = y := ⟨_, rfl⟩
  rw [← hw0] at hF
  have hT : y.1 = [] ++ w0.1 := by rw [hw0]; rfl
  have h2 : y.2 = w0.2 := by rw [hw0]
  have hbl : y.1.length ≤ y.1.length ∧ wt y.1 ≤ wt y.1 := ⟨Nat.le_refl _, Nat.le_refl _⟩
  refine lv_aload_n hx hb dX6_init_0 rfl (lv_at hl 0 rfl) ?_
  refine W.objInit hx hb hown (hts (.methodLink RX6 3 objectInit) (mu mw_532)) (hts (.instanceMethod objectInit) (mu mw_202)) (hts (.code objectInit ⟨#[0xb1]⟩ 1 none) (mu mw_203)) rfl (by rw [hml]; exact hl.1) rfl dX6_init_1 (Nat.le_of_ble_eq_true rfl) (Nat.le_of_ble_eq_true rfl) ?_
  refine W.eq (g2 := F0 m 4 ls []) rfl ?_
  refine lv_aload_n hx hb dX6_init_4 rfl (lv_at hl 0 rfl) ?_
  refine lv_sipush (v := (384 : Int32)) hx hb dX6_init_5 (by decide) ?_
  obtain ⟨hC1, hF⟩ := chkP_some hF
  obtain ⟨hz9, hF⟩ := chk_some hF
  obtain ⟨c2, ec2, hF⟩ := ltt_some hF
  obtain ⟨w3, hF, ew3⟩ := app_some hF
  obtain ⟨L4, eL4, hF⟩ := ltt_some hF
  have hT4 : y.1 = ([] ++ [(13, ((384 : Int32)).toNatClampNeg)]) ++ w3.1 := by rw [hT, ew3]; simp only [List.append_assoc]
  obtain ⟨M5, eM5, hF⟩ := ltt_some hF
  refine new_i hx hb (hts (.arrayClass .int) (mu mw_266)) hK hP hD hS hA9 hz9.1 hz9.2 hC1 (room_1s hT4 hbl) dX6_init_8 (fun ad6 H hn7 hP hD hS => ?_)
  rw [← ec2, ← eL4, ← eM5] at hP hD
  refine W_cs (k := L4.length) (n := wt L4) (by rw [eL4]) (by rw [eL4]) ?_
  refine W_st (st' := [.ref (ad6 c2), .ref (ad a)]) (by rw [ec2]) ?_
  have hT : y.1 = L4 ++ w3.1 := by rw [hT4, eL4]
  have h2 : y.2 = w3.2 := by rw [h2, ew3]
  have hl := lv_sub (l' := [(0, .ref (ad a))]) hl [0] rfl
  have e9 : ([(0, .ref (ad a))] : List (Nat × Value)) = [(0, .ref (ad6 a))] := (by first | rfl | simp only [hn7 a hc])
  rw [e9] at hl
  clear e9
  refine W_st (st' := [.ref (ad6 c2), .ref (ad6 a)]) (by first | rfl | simp only [hn7 a hc]) ?_
  have hk : (xt G L4).2.1 a = 6 := by rw [eL4]; exact xt_k _ hc hk
  have hc : a < (xt G L4).1 := by rw [eL4]; exact xt_l _ hc
  have hag := agr_t (xt_ge _ _) hag hn7
  have hc2 : c2 < (xt G L4).1 := by rw [ec2, eL4]; exact cnt_new _ _ _
  have hk2 : (xt G L4).2.1 c2 = 13 := by rw [ec2, eL4]; exact (kind_new _ _ _ _).1
  refine va_putF (D := D) (ci := 6) (v := va_re ad6 (some c2)) (ty := (.array .int)) (C := RX6) (T := TX6) (N := 14) hx hb hts (mus hf_X6) tyX6 tyX6_ok nmX6 hown hK hP hD hS a (wld_o ct ad6 (xt G L4) M5 hc hk (by decide)) rfl 0 (by decide) (hts (.fieldLink RX6 9 "VideoSuite$Samples" "guess" "[I") (mu mw_533)) (fun _ h9 => h9) rfl hin rfl (by decide +kernel) (nar_q ad6 (Or.inr ⟨_, rfl⟩) (some c2)).1 (nar_q ad6 (Or.inr ⟨_, rfl⟩) (some c2)).2 (Nat.le_of_ble_eq_true rfl) dX6_init_10 (fun H locs hP hD hS => ?_)
  obtain ⟨M8, eM8, hF⟩ := ltt_some hF
  rw [set_oP ct ad6 (xt G L4) M5 hc hk (by decide) (by rfl), ← eM8] at hP hD
  refine lv_aload_n hx hb dX6_init_13 rfl (lv_at hl 0 rfl) ?_
  refine lv_sipush (v := (384 : Int32)) hx hb dX6_init_14 (by decide) ?_
  obtain ⟨hC9, hF⟩ := chkP_some hF
  obtain ⟨hz9, hF⟩ := chk_some hF
  obtain ⟨c10, ec10, hF⟩ := ltt_some hF
  obtain ⟨w11, hF, ew11⟩ := app_some hF
  obtain ⟨L12, eL12, hF⟩ := ltt_some hF
  have hT12 : y.1 = (L4 ++ [(13, ((384 : Int32)).toNatClampNeg)]) ++ w11.1 := by rw [hT, ew11]; simp only [List.append_assoc]
  obtain ⟨M13, eM13, hF⟩ := ltt_some hF
  refine new_i hx hb (hts (.arrayClass .int) (mu mw_266)) hK hP hD hS hA9 hz9.1 hz9.2 hC9 (room_1s hT12 hbl) dX6_init_17 (fun ad14 H hn15 hP hD hS => ?_)
  rw [← ec10, ← eL12, ← eM13] at hP hD
  refine W_cs (k := L12.length) (n := wt L12) (by rw [eL12]) (by rw [eL12]) ?_
  refine W_st (st' := [.ref (ad14 c10), .ref (ad6 a)]) (by rw [ec10]) ?_
  have hT : y.1 = L12 ++ w11.1 := by rw [hT12, eL12]
  have h2 : y.2 = w11.2 := by rw [h2, ew11]
  have hl := lv_sub (l' := [(0, .ref (ad6 a))]) hl [0] rfl
  have e9 : ([(0, .ref (ad6 a))] : List (Nat × Value)) = [(0, .ref (ad14 a))] := (by first | rfl | simp only [hn15 a hc])
  rw [e9] at hl
  clear e9
  refine W_st (st' := [.ref (ad14 c10), .ref (ad14 a)]) (by first | rfl | simp only [hn15 a hc]) ?_
  have hk : (xt G L12).2.1 a = 6 := by rw [eL12]; exact xt_k _ hc hk
  have hc : a < (xt G L12).1 := by rw [eL12]; exact xt_l _ hc
  have hk2 : (xt G L12).2.1 c2 = 13 := by rw [eL12]; exact xt_k _ hc2 hk2
  have hc2 : c2 < (xt G L12).1 := by rw [eL12]; exact xt_l _ hc2
  have hag := agr_t (xt_ge _ _) hag hn15
  have hc10 : c10 < (xt G L12).1 := by rw [ec10, eL12]; exact cnt_new _ _ _
  have hk10 : (xt G L12).2.1 c10 = 13 := by rw [ec10, eL12]; exact (kind_new _ _ _ _).1
  refine va_putF (D := D) (ci := 6) (v := va_re ad14 (some c10)) (ty := (.array .int)) (C := RX6) (T := TX6) (N := 14) hx hb hts (mus hf_X6) tyX6 tyX6_ok nmX6 hown hK hP hD hS a (wld_o ct ad14 (xt G L12) M13 hc hk (by decide)) rfl 1 (by decide) (hts (.fieldLink RX6 15 "VideoSuite$Samples" "first" "[I") (mu mw_536)) (fun _ h9 => h9) rfl hin rfl (by decide +kernel) (nar_q ad14 (Or.inr ⟨_, rfl⟩) (some c10)).1 (nar_q ad14 (Or.inr ⟨_, rfl⟩) (some c10)).2 (Nat.le_of_ble_eq_true rfl) dX6_init_19 (fun H locs hP hD hS => ?_)
  obtain ⟨M16, eM16, hF⟩ := ltt_some hF
  rw [set_oP ct ad14 (xt G L12) M13 hc hk (by decide) (by rfl), ← eM16] at hP hD
  refine lv_aload_n hx hb dX6_init_22 rfl (lv_at hl 0 rfl) ?_
  refine lv_sipush (v := (384 : Int32)) hx hb dX6_init_23 (by decide) ?_
  obtain ⟨hC17, hF⟩ := chkP_some hF
  obtain ⟨hz9, hF⟩ := chk_some hF
  obtain ⟨c18, ec18, hF⟩ := ltt_some hF
  obtain ⟨w19, hF, ew19⟩ := app_some hF
  obtain ⟨L20, eL20, hF⟩ := ltt_some hF
  have hT20 : y.1 = (L12 ++ [(13, ((384 : Int32)).toNatClampNeg)]) ++ w19.1 := by rw [hT, ew19]; simp only [List.append_assoc]
  obtain ⟨M21, eM21, hF⟩ := ltt_some hF
  refine new_i hx hb (hts (.arrayClass .int) (mu mw_266)) hK hP hD hS hA9 hz9.1 hz9.2 hC17 (room_1s hT20 hbl) dX6_init_26 (fun ad22 H hn23 hP hD hS => ?_)
  rw [← ec18, ← eL20, ← eM21] at hP hD
  refine W_cs (k := L20.length) (n := wt L20) (by rw [eL20]) (by rw [eL20]) ?_
  refine W_st (st' := [.ref (ad22 c18), .ref (ad14 a)]) (by rw [ec18]) ?_
  have hT : y.1 = L20 ++ w19.1 := by rw [hT20, eL20]
  have h2 : y.2 = w19.2 := by rw [h2, ew19]
  have hl := lv_sub (l' := [(0, .ref (ad14 a))]) hl [0] rfl
  have e9 : ([(0, .ref (ad14 a))] : List (Nat × Value)) = [(0, .ref (ad22 a))] := (by first | rfl | simp only [hn23 a hc])
  rw [e9] at hl
  clear e9
  refine W_st (st' := [.ref (ad22 c18), .ref (ad22 a)]) (by first | rfl | simp only [hn23 a hc]) ?_
  have hk : (xt G L20).2.1 a = 6 := by rw [eL20]; exact xt_k _ hc hk
  have hc : a < (xt G L20).1 := by rw [eL20]; exact xt_l _ hc
  have hk2 : (xt G L20).2.1 c2 = 13 := by rw [eL20]; exact xt_k _ hc2 hk2
  have hc2 : c2 < (xt G L20).1 := by rw [eL20]; exact xt_l _ hc2
  have hk10 : (xt G L20).2.1 c10 = 13 := by rw [eL20]; exact xt_k _ hc10 hk10
  have hc10 : c10 < (xt G L20).1 := by rw [eL20]; exact xt_l _ hc10
  have hag := agr_t (xt_ge _ _) hag hn23
  have hc18 : c18 < (xt G L20).1 := by rw [ec18, eL20]; exact cnt_new _ _ _
  have hk18 : (xt G L20).2.1 c18 = 13 := by rw [ec18, eL20]; exact (kind_new _ _ _ _).1
  refine va_putF (D := D) (ci := 6) (v := va_re ad22 (some c18)) (ty := (.array .int)) (C := RX6) (T := TX6) (N := 14) hx hb hts (mus hf_X6) tyX6 tyX6_ok nmX6 hown hK hP hD hS a (wld_o ct ad22 (xt G L20) M21 hc hk (by decide)) rfl 2 (by decide) (hts (.fieldLink RX6 18 "VideoSuite$Samples" "second" "[I") (mu mw_537)) (fun _ h9 => h9) rfl hin rfl (by decide +kernel) (nar_q ad22 (Or.inr ⟨_, rfl⟩) (some c18)).1 (nar_q ad22 (Or.inr ⟨_, rfl⟩) (some c18)).2 (Nat.le_of_ble_eq_true rfl) dX6_init_28 (fun H locs hP hD hS => ?_)
  obtain ⟨M24, eM24, hF⟩ := ltt_some hF
  rw [set_oP ct ad22 (xt G L20) M21 hc hk (by decide) (by rfl), ← eM24] at hP hD
  refine lv_aload_n hx hb dX6_init_31 rfl (lv_at hl 0 rfl) ?_
  refine lv_sipush (v := (441 : Int32)) hx hb dX6_init_32 (by decide) ?_
  obtain ⟨hC25, hF⟩ := chkP_some hF
  obtain ⟨hz9, hF⟩ := chk_some hF
  obtain ⟨c26, ec26, hF⟩ := ltt_some hF
  obtain ⟨w27, hF, ew27⟩ := app_some hF
  obtain ⟨L28, eL28, hF⟩ := ltt_some hF
  have hT28 : y.1 = (L20 ++ [(13, ((441 : Int32)).toNatClampNeg)]) ++ w27.1 := by rw [hT, ew27]; simp only [List.append_assoc]
  obtain ⟨M29, eM29, hF⟩ := ltt_some hF
  refine new_i hx hb (hts (.arrayClass .int) (mu mw_266)) hK hP hD hS hA9 hz9.1 hz9.2 hC25 (room_1s hT28 hbl) dX6_init_35 (fun ad30 H hn31 hP hD hS => ?_)
  rw [← ec26, ← eL28, ← eM29] at hP hD
  refine W_cs (k := L28.length) (n := wt L28) (by rw [eL28]) (by rw [eL28]) ?_
  refine W_st (st' := [.ref (ad30 c26), .ref (ad22 a)]) (by rw [ec26]) ?_
  have hT : y.1 = L28 ++ w27.1 := by rw [hT28, eL28]
  have h2 : y.2 = w27.2 := by rw [h2, ew27]
  have hl := lv_sub (l' := [(0, .ref (ad22 a))]) hl [0] rfl
  have e9 : ([(0, .ref (ad22 a))] : List (Nat × Value)) = [(0, .ref (ad30 a))] := (by first | rfl | simp only [hn31 a hc])
  rw [e9] at hl
  clear e9
  refine W_st (st' := [.ref (ad30 c26), .ref (ad30 a)]) (by first | rfl | simp only [hn31 a hc]) ?_
  have hk : (xt G L28).2.1 a = 6 := by rw [eL28]; exact xt_k _ hc hk
  have hc : a < (xt G L28).1 := by rw [eL28]; exact xt_l _ hc
  have hk2 : (xt G L28).2.1 c2 = 13 := by rw [eL28]; exact xt_k _ hc2 hk2
  have hc2 : c2 < (xt G L28).1 := by rw [eL28]; exact xt_l _ hc2
  have hk10 : (xt G L28).2.1 c10 = 13 := by rw [eL28]; exact xt_k _ hc10 hk10
  have hc10 : c10 < (xt G L28).1 := by rw [eL28]; exact xt_l _ hc10
  have hk18 : (xt G L28).2.1 c18 = 13 := by rw [eL28]; exact xt_k _ hc18 hk18
  have hc18 : c18 < (xt G L28).1 := by rw [eL28]; exact xt_l _ hc18
  have hag := agr_t (xt_ge _ _) hag hn31
  have hc26 : c26 < (xt G L28).1 := by rw [ec26, eL28]; exact cnt_new _ _ _
  have hk26 : (xt G L28).2.1 c26 = 13 := by rw [ec26, eL28]; exact (kind_new _ _ _ _).1
  refine va_putF (D := D) (ci := 6) (v := va_re ad30 (some c26)) (ty := (.array .int)) (C := RX6) (T := TX6) (N := 14) hx hb hts (mus hf_X6) tyX6 tyX6_ok nmX6 hown hK hP hD hS a (wld_o ct ad30 (xt G L28) M29 hc hk (by decide)) rfl 3 (by decide) (hts (.fieldLink RX6 21 "VideoSuite$Samples" "window" "[I") (mu mw_538)) (fun _ h9 => h9) rfl hin rfl (by decide +kernel) (nar_q ad30 (Or.inr ⟨_, rfl⟩) (some c26)).1 (nar_q ad30 (Or.inr ⟨_, rfl⟩) (some c26)).2 (Nat.le_of_ble_eq_true rfl) dX6_init_37 (fun H locs hP hD hS => ?_)
  obtain ⟨M32, eM32, hF⟩ := ltt_some hF
  rw [set_oP ct ad30 (xt G L28) M29 hc hk (by decide) (by rfl), ← eM32] at hP hD
  refine lv_aload_n hx hb dX6_init_40 rfl (lv_at hl 0 rfl) ?_
  refine lv_sipush (v := (336 : Int32)) hx hb dX6_init_41 (by decide) ?_
  obtain ⟨hC33, hF⟩ := chkP_some hF
  obtain ⟨hz9, hF⟩ := chk_some hF
  obtain ⟨c34, ec34, hF⟩ := ltt_some hF
  obtain ⟨w35, hF, ew35⟩ := app_some hF
  obtain ⟨L36, eL36, hF⟩ := ltt_some hF
  have hT36 : y.1 = (L28 ++ [(13, ((336 : Int32)).toNatClampNeg)]) ++ w35.1 := by rw [hT, ew35]; simp only [List.append_assoc]
  obtain ⟨M37, eM37, hF⟩ := ltt_some hF
  refine new_i hx hb (hts (.arrayClass .int) (mu mw_266)) hK hP hD hS hA9 hz9.1 hz9.2 hC33 (room_1s hT36 hbl) dX6_init_44 (fun ad38 H hn39 hP hD hS => ?_)
  rw [← ec34, ← eL36, ← eM37] at hP hD
  refine W_cs (k := L36.length) (n := wt L36) (by rw [eL36]) (by rw [eL36]) ?_
  refine W_st (st' := [.ref (ad38 c34), .ref (ad30 a)]) (by rw [ec34]) ?_
  have hT : y.1 = L36 ++ w35.1 := by rw [hT36, eL36]
  have h2 : y.2 = w35.2 := by rw [h2, ew35]
  have hl := lv_sub (l' := [(0, .ref (ad30 a))]) hl [0] rfl
  have e9 : ([(0, .ref (ad30 a))] : List (Nat × Value)) = [(0, .ref (ad38 a))] := (by first | rfl | simp only [hn39 a hc])
  rw [e9] at hl
  clear e9
  refine W_st (st' := [.ref (ad38 c34), .ref (ad38 a)]) (by first | rfl | simp only [hn39 a hc]) ?_
  have hk : (xt G L36).2.1 a = 6 := by rw [eL36]; exact xt_k _ hc hk
  have hc : a < (xt G L36).1 := by rw [eL36]; exact xt_l _ hc
  have hk2 : (xt G L36).2.1 c2 = 13 := by rw [eL36]; exact xt_k _ hc2 hk2
  have hc2 : c2 < (xt G L36).1 := by rw [eL36]; exact xt_l _ hc2
  have hk10 : (xt G L36).2.1 c10 = 13 := by rw [eL36]; exact xt_k _ hc10 hk10
  have hc10 : c10 < (xt G L36).1 := by rw [eL36]; exact xt_l _ hc10
  have hk18 : (xt G L36).2.1 c18 = 13 := by rw [eL36]; exact xt_k _ hc18 hk18
  have hc18 : c18 < (xt G L36).1 := by rw [eL36]; exact xt_l _ hc18
  have hk26 : (xt G L36).2.1 c26 = 13 := by rw [eL36]; exact xt_k _ hc26 hk26
  have hc26 : c26 < (xt G L36).1 := by rw [eL36]; exact xt_l _ hc26
  have hag := agr_t (xt_ge _ _) hag hn39
  have hc34 : c34 < (xt G L36).1 := by rw [ec34, eL36]; exact cnt_new _ _ _
  have hk34 : (xt G L36).2.1 c34 = 13 := by rw [ec34, eL36]; exact (kind_new _ _ _ _).1
  refine va_putF (D := D) (ci := 6) (v := va_re ad38 (some c34)) (ty := (.array .int)) (C := RX6) (T := TX6) (N := 14) hx hb hts (mus hf_X6) tyX6 tyX6_ok nmX6 hown hK hP hD hS a (wld_o ct ad38 (xt G L36) M37 hc hk (by decide)) rfl 4 (by decide) (hts (.fieldLink RX6 24 "VideoSuite$Samples" "middle" "[I") (mu mw_539)) (fun _ h9 => h9) rfl hin rfl (by decide +kernel) (nar_q ad38 (Or.inr ⟨_, rfl⟩) (some c34)).1 (nar_q ad38 (Or.inr ⟨_, rfl⟩) (some c34)).2 (Nat.le_of_ble_eq_true rfl) dX6_init_46 (fun H locs hP hD hS => ?_)
  obtain ⟨M40, eM40, hF⟩ := ltt_some hF
  rw [set_oP ct ad38 (xt G L36) M37 hc hk (by decide) (by rfl), ← eM40] at hP hD
  refine lv_aload_n hx hb dX6_init_49 rfl (lv_at hl 0 rfl) ?_
  refine lv_bipush (v := (6 : Int32)) hx hb dX6_init_50 (by decide) ?_
  obtain ⟨hC41, hF⟩ := chkP_some hF
  obtain ⟨hz9, hF⟩ := chk_some hF
  obtain ⟨c42, ec42, hF⟩ := ltt_some hF
  obtain ⟨w43, hF, ew43⟩ := app_some hF
  obtain ⟨L44, eL44, hF⟩ := ltt_some hF
  have hT44 : y.1 = (L36 ++ [(13, ((6 : Int32)).toNatClampNeg)]) ++ w43.1 := by rw [hT, ew43]; simp only [List.append_assoc]
  obtain ⟨M45, eM45, hF⟩ := ltt_some hF
  refine new_i hx hb (hts (.arrayClass .int) (mu mw_266)) hK hP hD hS hA9 hz9.1 hz9.2 hC41 (room_1s hT44 hbl) dX6_init_52 (fun ad46 H hn47 hP hD hS => ?_)
  rw [← ec42, ← eL44, ← eM45] at hP hD
  refine W_cs (k := L44.length) (n := wt L44) (by rw [eL44]) (by rw [eL44]) ?_
  refine W_st (st' := [.ref (ad46 c42), .ref (ad38 a)]) (by rw [ec42]) ?_
  have hT : y.1 = L44 ++ w43.1 := by rw [hT44, eL44]
  have h2 : y.2 = w43.2 := by rw [h2, ew43]
  have hl := lv_sub (l' := [(0, .ref (ad38 a))]) hl [0] rfl
  have e9 : ([(0, .ref (ad38 a))] : List (Nat × Value)) = [(0, .ref (ad46 a))] := (by first | rfl | simp only [hn47 a hc])
  rw [e9] at hl
  clear e9
  refine W_st (st' := [.ref (ad46 c42), .ref (ad46 a)]) (by first | rfl | simp only [hn47 a hc]) ?_
  have hk : (xt G L44).2.1 a = 6 := by rw [eL44]; exact xt_k _ hc hk
  have hc : a < (xt G L44).1 := by rw [eL44]; exact xt_l _ hc
  have hk2 : (xt G L44).2.1 c2 = 13 := by rw [eL44]; exact xt_k _ hc2 hk2
  have hc2 : c2 < (xt G L44).1 := by rw [eL44]; exact xt_l _ hc2
  have hk10 : (xt G L44).2.1 c10 = 13 := by rw [eL44]; exact xt_k _ hc10 hk10
  have hc10 : c10 < (xt G L44).1 := by rw [eL44]; exact xt_l _ hc10
  have hk18 : (xt G L44).2.1 c18 = 13 := by rw [eL44]; exact xt_k _ hc18 hk18
  have hc18 : c18 < (xt G L44).1 := by rw [eL44]; exact xt_l _ hc18
  have hk26 : (xt G L44).2.1 c26 = 13 := by rw [eL44]; exact xt_k _ hc26 hk26
  have hc26 : c26 < (xt G L44).1 := by rw [eL44]; exact xt_l _ hc26
  have hk34 : (xt G L44).2.1 c34 = 13 := by rw [eL44]; exact xt_k _ hc34 hk34
  have hc34 : c34 < (xt G L44).1 := by rw [eL44]; exact xt_l _ hc34
  have hag := agr_t (xt_ge _ _) hag hn47
  have hc42 : c42 < (xt G L44).1 := by rw [ec42, eL44]; exact cnt_new _ _ _
  have hk42 : (xt G L44).2.1 c42 = 13 := by rw [ec42, eL44]; exact (kind_new _ _ _ _).1
  refine va_putF (D := D) (ci := 6) (v := va_re ad46 (some c42)) (ty := (.array .int)) (C := RX6) (T := TX6) (N := 14) hx hb hts (mus hf_X6) tyX6 tyX6_ok nmX6 hown hK hP hD hS a (wld_o ct ad46 (xt G L44) M45 hc hk (by decide)) rfl 5 (by decide) (hts (.fieldLink RX6 27 "VideoSuite$Samples" "motion" "[I") (mu mw_540)) (fun _ h9 => h9) rfl hin rfl (by decide +kernel) (nar_q ad46 (Or.inr ⟨_, rfl⟩) (some c42)).1 (nar_q ad46 (Or.inr ⟨_, rfl⟩) (some c42)).2 (Nat.le_of_ble_eq_true rfl) dX6_init_54 (fun H locs hP hD hS => ?_)
  obtain ⟨M48, eM48, hF⟩ := ltt_some hF
  rw [set_oP ct ad46 (xt G L44) M45 hc hk (by decide) (by rfl), ← eM48] at hP hD
  refine lv_aload_n hx hb dX6_init_57 rfl (lv_at hl 0 rfl) ?_
  refine lv_bipush (v := (16 : Int32)) hx hb dX6_init_58 (by decide) ?_
  obtain ⟨hC49, hF⟩ := chkP_some hF
  obtain ⟨hz9, hF⟩ := chk_some hF
  obtain ⟨c50, ec50, hF⟩ := ltt_some hF
  obtain ⟨w51, hF, ew51⟩ := app_some hF
  obtain ⟨L52, eL52, hF⟩ := ltt_some hF
  have hT52 : y.1 = (L44 ++ [(13, ((16 : Int32)).toNatClampNeg)]) ++ w51.1 := by rw [hT, ew51]; simp only [List.append_assoc]
  obtain ⟨M53, eM53, hF⟩ := ltt_some hF
  refine new_i hx hb (hts (.arrayClass .int) (mu mw_266)) hK hP hD hS hA9 hz9.1 hz9.2 hC49 (room_1s hT52 hbl) dX6_init_60 (fun ad54 H hn55 hP hD hS => ?_)
  rw [← ec50, ← eL52, ← eM53] at hP hD
  refine W_cs (k := L52.length) (n := wt L52) (by rw [eL52]) (by rw [eL52]) ?_
  refine W_st (st' := [.ref (ad54 c50), .ref (ad46 a)]) (by rw [ec50]) ?_
  have hT : y.1 = L52 ++ w51.1 := by rw [hT52, eL52]
  have h2 : y.2 = w51.2 := by rw [h2, ew51]
  have hl := lv_sub (l' := [(0, .ref (ad46 a))]) hl [0] rfl
  have e9 : ([(0, .ref (ad46 a))] : List (Nat × Value)) = [(0, .ref (ad54 a))] := (by first | rfl | simp only [hn55 a hc])
  rw [e9] at hl
  clear e9
  refine W_st (st' := [.ref (ad54 c50), .ref (ad54 a)]) (by first | rfl | simp only [hn55 a hc]) ?_
  have hk : (xt G L52).2.1 a = 6 := by rw [eL52]; exact xt_k _ hc hk
  have hc : a < (xt G L52).1 := by rw [eL52]; exact xt_l _ hc
  have hk2 : (xt G L52).2.1 c2 = 13 := by rw [eL52]; exact xt_k _ hc2 hk2
  have hc2 : c2 < (xt G L52).1 := by rw [eL52]; exact xt_l _ hc2
  have hk10 : (xt G L52).2.1 c10 = 13 := by rw [eL52]; exact xt_k _ hc10 hk10
  have hc10 : c10 < (xt G L52).1 := by rw [eL52]; exact xt_l _ hc10
  have hk18 : (xt G L52).2.1 c18 = 13 := by rw [eL52]; exact xt_k _ hc18 hk18
  have hc18 : c18 < (xt G L52).1 := by rw [eL52]; exact xt_l _ hc18
  have hk26 : (xt G L52).2.1 c26 = 13 := by rw [eL52]; exact xt_k _ hc26 hk26
  have hc26 : c26 < (xt G L52).1 := by rw [eL52]; exact xt_l _ hc26
  have hk34 : (xt G L52).2.1 c34 = 13 := by rw [eL52]; exact xt_k _ hc34 hk34
  have hc34 : c34 < (xt G L52).1 := by rw [eL52]; exact xt_l _ hc34
  have hk42 : (xt G L52).2.1 c42 = 13 := by rw [eL52]; exact xt_k _ hc42 hk42
  have hc42 : c42 < (xt G L52).1 := by rw [eL52]; exact xt_l _ hc42
  have hag := agr_t (xt_ge _ _) hag hn55
  have hc50 : c50 < (xt G L52).1 := by rw [ec50, eL52]; exact cnt_new _ _ _
  have hk50 : (xt G L52).2.1 c50 = 13 := by rw [ec50, eL52]; exact (kind_new _ _ _ _).1
  refine va_putF (D := D) (ci := 6) (v := va_re ad54 (some c50)) (ty := (.array .int)) (C := RX6) (T := TX6) (N := 14) hx hb hts (mus hf_X6) tyX6 tyX6_ok nmX6 hown hK hP hD hS a (wld_o ct ad54 (xt G L52) M53 hc hk (by decide)) rfl 6 (by decide) (hts (.fieldLink RX6 30 "VideoSuite$Samples" "rest" "[I") (mu mw_542)) (fun _ h9 => h9) rfl hin rfl (by decide +kernel) (nar_q ad54 (Or.inr ⟨_, rfl⟩) (some c50)).1 (nar_q ad54 (Or.inr ⟨_, rfl⟩) (some c50)).2 (Nat.le_of_ble_eq_true rfl) dX6_init_62 (fun H locs hP hD hS => ?_)
  obtain ⟨M56, eM56, hF⟩ := ltt_some hF
  rw [set_oP ct ad54 (xt G L52) M53 hc hk (by decide) (by rfl), ← eM56] at hP hD
  refine lv_aload_n hx hb dX6_init_65 rfl (lv_at hl 0 rfl) ?_
  refine lv_bipush (v := (16 : Int32)) hx hb dX6_init_66 (by decide) ?_
  obtain ⟨hC57, hF⟩ := chkP_some hF
  obtain ⟨hz9, hF⟩ := chk_some hF
  obtain ⟨c58, ec58, hF⟩ := ltt_some hF
  obtain ⟨w59, hF, ew59⟩ := app_some hF
  obtain ⟨L60, eL60, hF⟩ := ltt_some hF
  have hT60 : y.1 = (L52 ++ [(13, ((16 : Int32)).toNatClampNeg)]) ++ w59.1 := by rw [hT, ew59]; simp only [List.append_assoc]
  obtain ⟨M61, eM61, hF⟩ := ltt_some hF
  refine new_i hx hb (hts (.arrayClass .int) (mu mw_266)) hK hP hD hS hA9 hz9.1 hz9.2 hC57 (room_1s hT60 hbl) dX6_init_68 (fun ad62 H hn63 hP hD hS => ?_)
  rw [← ec58, ← eL60, ← eM61] at hP hD
  refine W_cs (k := L60.length) (n := wt L60) (by rw [eL60]) (by rw [eL60]) ?_
  refine W_st (st' := [.ref (ad62 c58), .ref (ad54 a)]) (by rw [ec58]) ?_
  have hT : y.1 = L60 ++ w59.1 := by rw [hT60, eL60]
  have h2 : y.2 = w59.2 := by rw [h2, ew59]
  have hl := lv_sub (l' := [(0, .ref (ad54 a))]) hl [0] rfl
  have e9 : ([(0, .ref (ad54 a))] : List (Nat × Value)) = [(0, .ref (ad62 a))] := (by first | rfl | simp only [hn63 a hc])
  rw [e9] at hl
  clear e9
  refine W_st (st' := [.ref (ad62 c58), .ref (ad62 a)]) (by first | rfl | simp only [hn63 a hc]) ?_
  have hk : (xt G L60).2.1 a = 6 := by rw [eL60]; exact xt_k _ hc hk
  have hc : a < (xt G L60).1 := by rw [eL60]; exact xt_l _ hc
  have hk2 : (xt G L60).2.1 c2 = 13 := by rw [eL60]; exact xt_k _ hc2 hk2
  have hc2 : c2 < (xt G L60).1 := by rw [eL60]; exact xt_l _ hc2
  have hk10 : (xt G L60).2.1 c10 = 13 := by rw [eL60]; exact xt_k _ hc10 hk10
  have hc10 : c10 < (xt G L60).1 := by rw [eL60]; exact xt_l _ hc10
  have hk18 : (xt G L60).2.1 c18 = 13 := by rw [eL60]; exact xt_k _ hc18 hk18
  have hc18 : c18 < (xt G L60).1 := by rw [eL60]; exact xt_l _ hc18
  have hk26 : (xt G L60).2.1 c26 = 13 := by rw [eL60]; exact xt_k _ hc26 hk26
  have hc26 : c26 < (xt G L60).1 := by rw [eL60]; exact xt_l _ hc26
  have hk34 : (xt G L60).2.1 c34 = 13 := by rw [eL60]; exact xt_k _ hc34 hk34
  have hc34 : c34 < (xt G L60).1 := by rw [eL60]; exact xt_l _ hc34
  have hk42 : (xt G L60).2.1 c42 = 13 := by rw [eL60]; exact xt_k _ hc42 hk42
  have hc42 : c42 < (xt G L60).1 := by rw [eL60]; exact xt_l _ hc42
  have hk50 : (xt G L60).2.1 c50 = 13 := by rw [eL60]; exact xt_k _ hc50 hk50
  have hc50 : c50 < (xt G L60).1 := by rw [eL60]; exact xt_l _ hc50
  have hag := agr_t (xt_ge _ _) hag hn63
  have hc58 : c58 < (xt G L60).1 := by rw [ec58, eL60]; exact cnt_new _ _ _
  have hk58 : (xt G L60).2.1 c58 = 13 := by rw [ec58, eL60]; exact (kind_new _ _ _ _).1
  refine va_putF (D := D) (ci := 6) (v := va_re ad62 (some c58)) (ty := (.array .int)) (C := RX6) (T := TX6) (N := 14) hx hb hts (mus hf_X6) tyX6 tyX6_ok nmX6 hown hK hP hD hS a (wld_o ct ad62 (xt G L60) M61 hc hk (by decide)) rfl 7 (by decide) (hts (.fieldLink RX6 33 "VideoSuite$Samples" "even" "[I") (mu mw_543)) (fun _ h9 => h9) rfl hin rfl (by decide +kernel) (nar_q ad62 (Or.inr ⟨_, rfl⟩) (some c58)).1 (nar_q ad62 (Or.inr ⟨_, rfl⟩) (some c58)).2 (Nat.le_of_ble_eq_true rfl) dX6_init_70 (fun H locs hP hD hS => ?_)
  obtain ⟨M64, eM64, hF⟩ := ltt_some hF
  rw [set_oP ct ad62 (xt G L60) M61 hc hk (by decide) (by rfl), ← eM64] at hP hD
  refine lv_aload_n hx hb dX6_init_73 rfl (lv_at hl 0 rfl) ?_
  refine lv_bipush (v := (34 : Int32)) hx hb dX6_init_74 (by decide) ?_
  obtain ⟨hC65, hF⟩ := chkP_some hF
  obtain ⟨hz9, hF⟩ := chk_some hF
  obtain ⟨c66, ec66, hF⟩ := ltt_some hF
  obtain ⟨w67, hF, ew67⟩ := app_some hF
  obtain ⟨L68, eL68, hF⟩ := ltt_some hF
  have hT68 : y.1 = (L60 ++ [(13, ((34 : Int32)).toNatClampNeg)]) ++ w67.1 := by rw [hT, ew67]; simp only [List.append_assoc]
  obtain ⟨M69, eM69, hF⟩ := ltt_some hF
  refine new_i hx hb (hts (.arrayClass .int) (mu mw_266)) hK hP hD hS hA9 hz9.1 hz9.2 hC65 (room_1s hT68 hbl) dX6_init_76 (fun ad70 H hn71 hP hD hS => ?_)
  rw [← ec66, ← eL68, ← eM69] at hP hD
  refine W_cs (k := L68.length) (n := wt L68) (by rw [eL68]) (by rw [eL68]) ?_
  refine W_st (st' := [.ref (ad70 c66), .ref (ad62 a)]) (by rw [ec66]) ?_
  have hT : y.1 = L68 ++ w67.1 := by rw [hT68, eL68]
  have h2 : y.2 = w67.2 := by rw [h2, ew67]
  have hl := lv_sub (l' := []) hl [] rfl
  refine W_st (st' := [.ref (ad70 c66), .ref (ad70 a)]) (by first | rfl | simp only [hn71 a hc]) ?_
  have hk : (xt G L68).2.1 a = 6 := by rw [eL68]; exact xt_k _ hc hk
  have hc : a < (xt G L68).1 := by rw [eL68]; exact xt_l _ hc
  have hk2 : (xt G L68).2.1 c2 = 13 := by rw [eL68]; exact xt_k _ hc2 hk2
  have hc2 : c2 < (xt G L68).1 := by rw [eL68]; exact xt_l _ hc2
  have hk10 : (xt G L68).2.1 c10 = 13 := by rw [eL68]; exact xt_k _ hc10 hk10
  have hc10 : c10 < (xt G L68).1 := by rw [eL68]; exact xt_l _ hc10
  have hk18 : (xt G L68).2.1 c18 = 13 := by rw [eL68]; exact xt_k _ hc18 hk18
  have hc18 : c18 < (xt G L68).1 := by rw [eL68]; exact xt_l _ hc18
  have hk26 : (xt G L68).2.1 c26 = 13 := by rw [eL68]; exact xt_k _ hc26 hk26
  have hc26 : c26 < (xt G L68).1 := by rw [eL68]; exact xt_l _ hc26
  have hk34 : (xt G L68).2.1 c34 = 13 := by rw [eL68]; exact xt_k _ hc34 hk34
  have hc34 : c34 < (xt G L68).1 := by rw [eL68]; exact xt_l _ hc34
  have hk42 : (xt G L68).2.1 c42 = 13 := by rw [eL68]; exact xt_k _ hc42 hk42
  have hc42 : c42 < (xt G L68).1 := by rw [eL68]; exact xt_l _ hc42
  have hk50 : (xt G L68).2.1 c50 = 13 := by rw [eL68]; exact xt_k _ hc50 hk50
  have hc50 : c50 < (xt G L68).1 := by rw [eL68]; exact xt_l _ hc50
  have hk58 : (xt G L68).2.1 c58 = 13 := by rw [eL68]; exact xt_k _ hc58 hk58
  have hc58 : c58 < (xt G L68).1 := by rw [eL68]; exact xt_l _ hc58
  have hag := agr_t (xt_ge _ _) hag hn71
  have hc66 : c66 < (xt G L68).1 := by rw [ec66, eL68]; exact cnt_new _ _ _
  have hk66 : (xt G L68).2.1 c66 = 13 := by rw [ec66, eL68]; exact (kind_new _ _ _ _).1
  refine va_putF (D := D) (ci := 6) (v := va_re ad70 (some c66)) (ty := (.array .int)) (C := RX6) (T := TX6) (N := 14) hx hb hts (mus hf_X6) tyX6 tyX6_ok nmX6 hown hK hP hD hS a (wld_o ct ad70 (xt G L68) M69 hc hk (by decide)) rfl 8 (by decide) (hts (.fieldLink RX6 36 "VideoSuite$Samples" "around" "[I") (mu mw_544)) (fun _ h9 => h9) rfl hin rfl (by decide +kernel) (nar_q ad70 (Or.inr ⟨_, rfl⟩) (some c66)).1 (nar_q ad70 (Or.inr ⟨_, rfl⟩) (some c66)).2 (Nat.le_of_ble_eq_true rfl) dX6_init_78 (fun H locs hP hD hS => ?_)
  obtain ⟨M72, eM72, hF⟩ := ltt_some hF
  rw [set_oP ct ad70 (xt G L68) M69 hc hk (by decide) (by rfl), ← eM72] at hP hD
  obtain rfl := Option.some.inj hF
  have e1 : y.1 = L68 := by rw [hT]; exact List.append_nil _
  have e2 : y.2 = M72 := h2
  refine W.widen (k := y.1.length) (n := wt y.1) (Nat.le_of_eq (by rw [e1])) (Nat.le_of_eq (by rw [e1])) ?_
  exact W.vret hx hb hr (fun t ht hW => ⟨⟨ad70, rfl, hag, (by unfold kE; rw [e1, e2]; exact ⟨by rw [ht]; exact hP, va_K.moved hW.alike hK, hD⟩)⟩, hS.F ht⟩) hS.2.2 dX6_init_81
theorem dX6_lumaAt_0 : decode cX6_lumaAt 0 = .ok (.bipush 16, 2) := by decide +kernel
theorem dX6_lumaAt_2 : decode cX6_lumaAt 2 = .ok (.iload_n 1, 1) := by decide +kernel
theorem dX6_lumaAt_3 : decode cX6_lumaAt 3 = .ok (.aload_n 0, 1) := by decide +kernel
theorem dX6_lumaAt_4 : decode cX6_lumaAt 4 = .ok (.getfield 83, 3) := by decide +kernel
theorem dX6_lumaAt_7 : decode cX6_lumaAt 7 = .ok (.idiv, 1) := by decide +kernel
theorem dX6_lumaAt_8 : decode cX6_lumaAt 8 = .ok (.imul, 1) := by decide +kernel
theorem dX6_lumaAt_9 : decode cX6_lumaAt 9 = .ok (.iload_n 3, 1) := by decide +kernel
theorem dX6_lumaAt_10 : decode cX6_lumaAt 10 = .ok (.iadd, 1) := by decide +kernel
theorem dX6_lumaAt_11 : decode cX6_lumaAt 11 = .ok (.bipush 16, 2) := by decide +kernel
theorem dX6_lumaAt_13 : decode cX6_lumaAt 13 = .ok (.imul, 1) := by decide +kernel
theorem dX6_lumaAt_14 : decode cX6_lumaAt 14 = .ok (.aload_n 0, 1) := by decide +kernel
theorem dX6_lumaAt_15 : decode cX6_lumaAt 15 = .ok (.getfield 83, 3) := by decide +kernel
theorem dX6_lumaAt_18 : decode cX6_lumaAt 18 = .ok (.imul, 1) := by decide +kernel
theorem dX6_lumaAt_19 : decode cX6_lumaAt 19 = .ok (.bipush 16, 2) := by decide +kernel
theorem dX6_lumaAt_21 : decode cX6_lumaAt 21 = .ok (.iload_n 1, 1) := by decide +kernel
theorem dX6_lumaAt_22 : decode cX6_lumaAt 22 = .ok (.aload_n 0, 1) := by decide +kernel
theorem dX6_lumaAt_23 : decode cX6_lumaAt 23 = .ok (.getfield 83, 3) := by decide +kernel
theorem dX6_lumaAt_26 : decode cX6_lumaAt 26 = .ok (.irem, 1) := by decide +kernel
theorem dX6_lumaAt_27 : decode cX6_lumaAt 27 = .ok (.imul, 1) := by decide +kernel
theorem dX6_lumaAt_28 : decode cX6_lumaAt 28 = .ok (.iadd, 1) := by decide +kernel
theorem dX6_lumaAt_29 : decode cX6_lumaAt 29 = .ok (.iload_n 2, 1) := by decide +kernel
theorem dX6_lumaAt_30 : decode cX6_lumaAt 30 = .ok (.iadd, 1) := by decide +kernel
theorem dX6_lumaAt_31 : decode cX6_lumaAt 31 = .ok (.ireturn, 1) := by decide +kernel
def FX6_lumaAt (G : GG) (M : DD) (p0 : Option Nat) (p1 : Int32) (p2 : Int32) (p3 : Int32) : Option (DD × Int32) :=
  dr G 4 p0 fun b1 =>
  ltt (M.1 b1 1) fun x2 =>
  chk (¬ x2 = 0) <|
  ltt (p1 / x2) fun x3 =>
  ltt ((((16 : Int32)) * x3)) fun x4 =>
  ltt ((x4 + p3)) fun x5 =>
  ltt ((x5 * ((16 : Int32)))) fun x6 =>
  ltt (M.1 b1 1) fun x7 =>
  ltt ((x6 * x7)) fun x8 =>
  ltt (M.1 b1 1) fun x9 =>
  chk (¬ x9 = 0) <|
  ltt (p1 - p1 / x9 * x9) fun x10 =>
  ltt ((((16 : Int32)) * x10)) fun x11 =>
  ltt ((x8 + x11)) fun x12 =>
  ltt ((x12 + p2)) fun x13 =>
  some (M, x13)
set_option maxHeartbeats 4000000 in
set_option maxRecDepth 100000 in
theorem kX6_lumaAt (l : Launch) (D : va_G) (ct : CT) (ad : Nat → Nat) (Z : Nat → Nat) (G : GG) (M : DD) (sz : Nat) (p0 : Option Nat) (p1 : Int32) (p2 : Int32) (p3 : Int32) (y : DD × Int32) (hF : FX6_lumaAt G M p0 p1 p2 p3 = some y) : Met l yX6_lumaAt wuX6_lumaAt ({ frames := 0, cells := 0, slots := 0, locals := 0 }) (va_Pc [va_re ad p0, .int p1, .int p2, .int p3] (kB D ct ad Z G M sz)) (va_Qi (fun (q : Int32) (_ : Unit) => q = y.2) (fun _ t => kE D ct ad G (wA ad G sz) y.1 t) (wA ad G sz)) 0 0 (wA ad G sz) := by
  refine Met.ofW (cc := cX6_lumaAt) (maxL := 4) (ret := (some .int)) (by decide) rfl ?_
  intro p e s m args below meth c s₁ B hml hv
  obtain ⟨rfl, hsz, hP, hK, hD0, hZ, hN⟩ := hv
  have hx := B.exec
  have hb := B.bytes
  have hr := B.returns
  have hts := atoms_spec (ws := wuX6_lumaAt) B.pre
  have hown : s.vm.findClass RX6 = some m.cls := findClass_of_methodNamed B.named
  have hlocks := B.notSynchronized
  subst hsz
  have hD := wD_self (sz := s.heap.size) hD0
  have hA9 : ∀ q, s.heap.size ≤ q → wA ad G s.heap.size q := fun q h => Or.inr h
  generalize hAe : wA ad G s.heap.size = A at hD hA9 hZ ⊢
  have hS : va_S A s.heap s.heap [] := va_S.rf
  have hl := lv_entry ([va_re ad p0, .int p1, .int p2, .int p3]) (n := 4) (by cases p0 <;> exact Nat.le_of_ble_eq_true rfl)
  rw [lg_entry_eq]
  generalize (lg_sl ([va_re ad p0, .int p1, .int p2, .int p3]) ++ List.replicate (4 - (lg_sl ([va_re ad p0, .int p1, .int p2, .int p3])).length) Slot.unset).toArray = ls at hl ⊢
  have hl : lv_has ls 4 [(0, va_re ad p0), (1, .int p1), (2, .int p2), (3, .int p3)] := by have e9 : lv_args 0 [va_re ad p0, .int p1, .int p2, .int p3] = [(0, va_re ad p0), (1, .int p1), (2, .int p2), (3, .int p3)] := (by cases p0 <;> rfl); rw [e9] at hl; exact hl
  unfold FX6_lumaAt at hF
  refine lv_bipush (v := (16 : Int32)) hx hb dX6_lumaAt_0 (by decide) ?_
  refine lv_iload_n hx hb dX6_lumaAt_2 rfl (lv_at hl 1 rfl) ?_
  refine lv_aloadq_n hx hb dX6_lumaAt_3 rfl (lv_at hl 0 rfl) ?_
  obtain ⟨b1, ho1, hc1, hk1, hF⟩ := dr_some hF
  refine W_st (st' := [.ref (ad b1), .int p1, .int (16 : Int32)]) (by rw [va_some ho1]) ?_
  refine va_get (D := D) (ci := 4) (v := .int (M.1 b1 1)) (C := RX4) (T := TX4) (N := 18) hx hb hts (mus hf_X4) hown hK hP b1 (wld_o ct ad G M hc1 hk1 (by decide)) rfl 1 (by decide) (hts (.fieldLink RX6 83 "VideoSuite$Picture" "width" "I") (mu mw_1422)) (fun _ h9 => h9) rfl dX6_lumaAt_4 ?_
  obtain ⟨x2, ex2, hF⟩ := ltt_some hF
  refine lv_topi (fun zx2 ezx2 => ?_)
  obtain rfl : x2 = zx2 := ex2.trans ezx2.symm
  obtain ⟨hne, hF⟩ := chk_some hF
  refine lv_idiv hx hb dX6_lumaAt_7 hne ?_
  obtain ⟨x3, ex3, hF⟩ := ltt_some hF
  refine lv_topi (fun zx3 ezx3 => ?_)
  obtain rfl : x3 = zx3 := ex3.trans ezx3.symm
  refine lv_imul hx hb dX6_lumaAt_8 ?_
  obtain ⟨x4, ex4, hF⟩ := ltt_some hF
  refine lv_topi (fun zx4 ezx4 => ?_)
  obtain rfl : x4 = zx4 := ex4.trans ezx4.symm
  refine lv_iload_n hx hb dX6_lumaAt_9 rfl (lv_at hl 3 rfl) ?_
  refine lv_iadd hx hb dX6_lumaAt_10 ?_
  obtain ⟨x5, ex5, hF⟩ := ltt_some hF
  refine lv_topi (fun zx5 ezx5 => ?_)
  obtain rfl : x5 = zx5 := ex5.trans ezx5.symm
  refine lv_bipush (v := (16 : Int32)) hx hb dX6_lumaAt_11 (by decide) ?_
  refine lv_imul hx hb dX6_lumaAt_13 ?_
  obtain ⟨x6, ex6, hF⟩ := ltt_some hF
  refine lv_topi (fun zx6 ezx6 => ?_)
  obtain rfl : x6 = zx6 := ex6.trans ezx6.symm
  refine lv_aloadq_n hx hb dX6_lumaAt_14 rfl (lv_at hl 0 rfl) ?_
  refine W_st (st' := [.ref (ad b1), .int x6]) (by rw [va_some ho1]) ?_
  refine va_get (D := D) (ci := 4) (v := .int (M.1 b1 1)) (C := RX4) (T := TX4) (N := 18) hx hb hts (mus hf_X4) hown hK hP b1 (wld_o ct ad G M hc1 hk1 (by decide)) rfl 1 (by decide) (hts (.fieldLink RX6 83 "VideoSuite$Picture" "width" "I") (mu mw_1422)) (fun _ h9 => h9) rfl dX6_lumaAt_15 ?_
  obtain ⟨x7, ex7, hF⟩ := ltt_some hF
  refine lv_topi (fun zx7 ezx7 => ?_)
  obtain rfl : x7 = zx7 := ex7.trans ezx7.symm
  refine lv_imul hx hb dX6_lumaAt_18 ?_
  obtain ⟨x8, ex8, hF⟩ := ltt_some hF
  refine lv_topi (fun zx8 ezx8 => ?_)
  obtain rfl : x8 = zx8 := ex8.trans ezx8.symm
  refine lv_bipush (v := (16 : Int32)) hx hb dX6_lumaAt_19 (by decide) ?_
  refine lv_iload_n hx hb dX6_lumaAt_21 rfl (lv_at hl 1 rfl) ?_
  refine lv_aloadq_n hx hb dX6_lumaAt_22 rfl (lv_at hl 0 rfl) ?_
  refine W_st (st' := [.ref (ad b1), .int p1, .int (16 : Int32), .int x8]) (by rw [va_some ho1]) ?_
  refine va_get (D := D) (ci := 4) (v := .int (M.1 b1 1)) (C := RX4) (T := TX4) (N := 18) hx hb hts (mus hf_X4) hown hK hP b1 (wld_o ct ad G M hc1 hk1 (by decide)) rfl 1 (by decide) (hts (.fieldLink RX6 83 "VideoSuite$Picture" "width" "I") (mu mw_1422)) (fun _ h9 => h9) rfl dX6_lumaAt_23 ?_
  obtain ⟨x9, ex9, hF⟩ := ltt_some hF
  refine lv_topi (fun zx9 ezx9 => ?_)
  obtain rfl : x9 = zx9 := ex9.trans ezx9.symm
  obtain ⟨hne, hF⟩ := chk_some hF
  refine lv_irem hx hb dX6_lumaAt_26 hne ?_
  obtain ⟨x10, ex10, hF⟩ := ltt_some hF
  refine lv_topi (fun zx10 ezx10 => ?_)
  obtain rfl : x10 = zx10 := ex10.trans ezx10.symm
  refine lv_imul hx hb dX6_lumaAt_27 ?_
  obtain ⟨x11, ex11, hF⟩ := ltt_some hF
  refine lv_topi (fun zx11 ezx11 => ?_)
  obtain rfl : x11 = zx11 := ex11.trans ezx11.symm
  refine lv_iadd hx hb dX6_lumaAt_28 ?_
  obtain ⟨x12, ex12, hF⟩ := ltt_some hF
  refine lv_topi (fun zx12 ezx12 => ?_)
  obtain rfl : x12 = zx12 := ex12.trans ezx12.symm
  refine lv_iload_n hx hb dX6_lumaAt_29 rfl (lv_at hl 2 rfl) ?_
  refine lv_iadd hx hb dX6_lumaAt_30 ?_
  obtain ⟨x13, ex13, hF⟩ := ltt_some hF
  refine lv_topi (fun zx13 ezx13 => ?_)
  obtain rfl : x13 = zx13 := ex13.trans ezx13.symm
  obtain rfl := Option.some.inj hF
  exact W.iret (v := x13) hx hb hr (fun t ht hW => ⟨⟨_, (), rfl, rfl, ⟨by rw [ht]; exact hP, va_K.moved hW.alike hK, hD⟩⟩, hS.F ht⟩) hS.2.2 dX6_lumaAt_31
theorem dX6_meanAround_0 : decode cX6_meanAround 0 = .ok (.aload_n 0, 1) := by decide +kernel
theorem dX6_meanAround_1 : decode cX6_meanAround 1 = .ok (.getfield 36, 3) := by decide +kernel
theorem dX6_meanAround_4 : decode cX6_meanAround 4 = .ok (.iconst 0, 1) := by decide +kernel
theorem dX6_meanAround_5 : decode cX6_meanAround 5 = .ok (.iaload, 1) := by decide +kernel
theorem dX6_meanAround_6 : decode cX6_meanAround 6 = .ok (.aload_n 0, 1) := by decide +kernel
theorem dX6_meanAround_7 : decode cX6_meanAround 7 = .ok (.getfield 36, 3) := by decide +kernel
theorem dX6_meanAround_10 : decode cX6_meanAround 10 = .ok (.iconst 1, 1) := by decide +kernel
theorem dX6_meanAround_11 : decode cX6_meanAround 11 = .ok (.iaload, 1) := by decide +kernel
theorem dX6_meanAround_12 : decode cX6_meanAround 12 = .ok (.iadd, 1) := by decide +kernel
theorem dX6_meanAround_13 : decode cX6_meanAround 13 = .ok (.aload_n 0, 1) := by decide +kernel
theorem dX6_meanAround_14 : decode cX6_meanAround 14 = .ok (.getfield 36, 3) := by decide +kernel
theorem dX6_meanAround_17 : decode cX6_meanAround 17 = .ok (.iconst 2, 1) := by decide +kernel
theorem dX6_meanAround_18 : decode cX6_meanAround 18 = .ok (.iaload, 1) := by decide +kernel
theorem dX6_meanAround_19 : decode cX6_meanAround 19 = .ok (.iadd, 1) := by decide +kernel
theorem dX6_meanAround_20 : decode cX6_meanAround 20 = .ok (.aload_n 0, 1) := by decide +kernel
theorem dX6_meanAround_21 : decode cX6_meanAround 21 = .ok (.getfield 36, 3) := by decide +kernel
theorem dX6_meanAround_24 : decode cX6_meanAround 24 = .ok (.iconst 3, 1) := by decide +kernel
theorem dX6_meanAround_25 : decode cX6_meanAround 25 = .ok (.iaload, 1) := by decide +kernel
theorem dX6_meanAround_26 : decode cX6_meanAround 26 = .ok (.iadd, 1) := by decide +kernel
theorem dX6_meanAround_27 : decode cX6_meanAround 27 = .ok (.istore_n 2, 1) := by decide +kernel
theorem dX6_meanAround_28 : decode cX6_meanAround 28 = .ok (.aload_n 0, 1) := by decide +kernel
theorem dX6_meanAround_29 : decode cX6_meanAround 29 = .ok (.getfield 36, 3) := by decide +kernel
theorem dX6_meanAround_32 : decode cX6_meanAround 32 = .ok (.iconst 5, 1) := by decide +kernel
theorem dX6_meanAround_33 : decode cX6_meanAround 33 = .ok (.iaload, 1) := by decide +kernel
theorem dX6_meanAround_34 : decode cX6_meanAround 34 = .ok (.aload_n 0, 1) := by decide +kernel
theorem dX6_meanAround_35 : decode cX6_meanAround 35 = .ok (.getfield 36, 3) := by decide +kernel
theorem dX6_meanAround_38 : decode cX6_meanAround 38 = .ok (.bipush 6, 2) := by decide +kernel
theorem dX6_meanAround_40 : decode cX6_meanAround 40 = .ok (.iaload, 1) := by decide +kernel
theorem dX6_meanAround_41 : decode cX6_meanAround 41 = .ok (.iadd, 1) := by decide +kernel
theorem dX6_meanAround_42 : decode cX6_meanAround 42 = .ok (.aload_n 0, 1) := by decide +kernel
theorem dX6_meanAround_43 : decode cX6_meanAround 43 = .ok (.getfield 36, 3) := by decide +kernel
theorem dX6_meanAround_46 : decode cX6_meanAround 46 = .ok (.bipush 7, 2) := by decide +kernel
theorem dX6_meanAround_48 : decode cX6_meanAround 48 = .ok (.iaload, 1) := by decide +kernel
theorem dX6_meanAround_49 : decode cX6_meanAround 49 = .ok (.iadd, 1) := by decide +kernel
theorem dX6_meanAround_50 : decode cX6_meanAround 50 = .ok (.aload_n 0, 1) := by decide +kernel
theorem dX6_meanAround_51 : decode cX6_meanAround 51 = .ok (.getfield 36, 3) := by decide +kernel
theorem dX6_meanAround_54 : decode cX6_meanAround 54 = .ok (.bipush 8, 2) := by decide +kernel
theorem dX6_meanAround_56 : decode cX6_meanAround 56 = .ok (.iaload, 1) := by decide +kernel
theorem dX6_meanAround_57 : decode cX6_meanAround 57 = .ok (.iadd, 1) := by decide +kernel
theorem dX6_meanAround_58 : decode cX6_meanAround 58 = .ok (.istore_n 3, 1) := by decide +kernel
theorem dX6_meanAround_59 : decode cX6_meanAround 59 = .ok (.iload_n 1, 1) := by decide +kernel
theorem dX6_meanAround_60 : decode cX6_meanAround 60 = .ok (.iconst 3, 1) := by decide +kernel
theorem dX6_meanAround_61 : decode cX6_meanAround 61 = .ok (.iand, 1) := by decide +kernel
theorem dX6_meanAround_62 : decode cX6_meanAround 62 = .ok (.tableswitch 42 0 2 #[26, 30, 36], 26) := by decide +kernel
theorem dX6_meanAround_88 : decode cX6_meanAround 88 = .ok (.sipush 128, 3) := by decide +kernel
theorem dX6_meanAround_91 : decode cX6_meanAround 91 = .ok (.ireturn, 1) := by decide +kernel
theorem dX6_meanAround_92 : decode cX6_meanAround 92 = .ok (.iload_n 2, 1) := by decide +kernel
theorem dX6_meanAround_93 : decode cX6_meanAround 93 = .ok (.iconst 2, 1) := by decide +kernel
theorem dX6_meanAround_94 : decode cX6_meanAround 94 = .ok (.iadd, 1) := by decide +kernel
theorem dX6_meanAround_95 : decode cX6_meanAround 95 = .ok (.iconst 2, 1) := by decide +kernel
theorem dX6_meanAround_96 : decode cX6_meanAround 96 = .ok (.ishr, 1) := by decide +kernel
theorem dX6_meanAround_97 : decode cX6_meanAround 97 = .ok (.ireturn, 1) := by decide +kernel
theorem dX6_meanAround_98 : decode cX6_meanAround 98 = .ok (.iload_n 3, 1) := by decide +kernel
theorem dX6_meanAround_99 : decode cX6_meanAround 99 = .ok (.iconst 2, 1) := by decide +kernel
theorem dX6_meanAround_100 : decode cX6_meanAround 100 = .ok (.iadd, 1) := by decide +kernel
theorem dX6_meanAround_101 : decode cX6_meanAround 101 = .ok (.iconst 2, 1) := by decide +kernel
theorem dX6_meanAround_102 : decode cX6_meanAround 102 = .ok (.ishr, 1) := by decide +kernel
theorem dX6_meanAround_103 : decode cX6_meanAround 103 = .ok (.ireturn, 1) := by decide +kernel
theorem dX6_meanAround_104 : decode cX6_meanAround 104 = .ok (.iload_n 2, 1) := by decide +kernel
theorem dX6_meanAround_105 : decode cX6_meanAround 105 = .ok (.iload_n 3, 1) := by decide +kernel
theorem dX6_meanAround_106 : decode cX6_meanAround 106 = .ok (.iadd, 1) := by decide +kernel
theorem dX6_meanAround_107 : decode cX6_meanAround 107 = .ok (.iconst 4, 1) := by decide +kernel
theorem dX6_meanAround_108 : decode cX6_meanAround 108 = .ok (.iadd, 1) := by decide +kernel
theorem dX6_meanAround_109 : decode cX6_meanAround 109 = .ok (.iconst 3, 1) := by decide +kernel
theorem dX6_meanAround_110 : decode cX6_meanAround 110 = .ok (.ishr, 1) := by decide +kernel
theorem dX6_meanAround_111 : decode cX6_meanAround 111 = .ok (.ireturn, 1) := by decide +kernel
def FX6_meanAround (G : GG) (M : DD) (a : Nat) (p0 : Int32) : Option (DD × Int32) :=
  dr G 13 ((M.2 a 8)) fun b1 =>
  chk (¬ (((0 : Int32)) < 0 ∨ G.2.2 b1 ≤ ((0 : Int32)).toNatClampNeg)) <|
  ltt (M.1 b1 ((0 : Int32)).toNatClampNeg) fun x2 =>
  chk (¬ (((1 : Int32)) < 0 ∨ G.2.2 b1 ≤ ((1 : Int32)).toNatClampNeg)) <|
  ltt (M.1 b1 ((1 : Int32)).toNatClampNeg) fun x3 =>
  ltt ((x2 + x3)) fun x4 =>
  chk (¬ (((2 : Int32)) < 0 ∨ G.2.2 b1 ≤ ((2 : Int32)).toNatClampNeg)) <|
  ltt (M.1 b1 ((2 : Int32)).toNatClampNeg) fun x5 =>
  ltt ((x4 + x5)) fun x6 =>
  chk (¬ (((3 : Int32)) < 0 ∨ G.2.2 b1 ≤ ((3 : Int32)).toNatClampNeg)) <|
  ltt (M.1 b1 ((3 : Int32)).toNatClampNeg) fun x7 =>
  ltt ((x6 + x7)) fun x8 =>
  chk (¬ (((5 : Int32)) < 0 ∨ G.2.2 b1 ≤ ((5 : Int32)).toNatClampNeg)) <|
  ltt (M.1 b1 ((5 : Int32)).toNatClampNeg) fun x9 =>
  chk (¬ (((6 : Int32)) < 0 ∨ G.2.2 b1 ≤ ((6 : Int32)).toNatClampNeg)) <|
  ltt (M.1 b1 ((6 : Int32)).toNatClampNeg) fun x10 =>
  ltt ((x9 + x10)) fun x11 =>
  chk (¬ (((7 : Int32)) < 0 ∨ G.2.2 b1 ≤ ((7 : Int32)).toNatClampNeg)) <|
  ltt (M.1 b1 ((7 : Int32)).toNatClampNeg) fun x12 =>
  ltt ((x11 + x12)) fun x13 =>
  chk (¬ (((8 : Int32)) < 0 ∨ G.2.2 b1 ≤ ((8 : Int32)).toNatClampNeg)) <|
  ltt (M.1 b1 ((8 : Int32)).toNatClampNeg) fun x14 =>
  ltt ((x13 + x14)) fun x15 =>
  ltt ((p0 &&& ((3 : Int32)))) fun x16 =>
  if x16 = (0 : Int32) then (some (M, (128 : Int32))) else
  (if x16 = (1 : Int32) then (ltt ((x8 + ((2 : Int32)))) fun x19 =>
  ltt ((x19 >>> (((2 : Int32)) &&& 31))) fun x20 =>
  some (M, x20)) else
  (if x16 = (2 : Int32) then (ltt ((x15 + ((2 : Int32)))) fun x22 =>
  ltt ((x22 >>> (((2 : Int32)) &&& 31))) fun x23 =>
  some (M, x23)) else
  (chk (x16.toInt < 0 ∨ 2 < x16.toInt) <|
  ltt ((x8 + x15)) fun x24 =>
  ltt ((x24 + ((4 : Int32)))) fun x25 =>
  ltt ((x25 >>> (((3 : Int32)) &&& 31))) fun x26 =>
  some (M, x26))))
set_option maxHeartbeats 4000000 in
set_option maxRecDepth 100000 in
theorem kX6_meanAround (l : Launch) (D : va_G) (ct : CT) (ad : Nat → Nat) (Z : Nat → Nat) (G : GG) (M : DD) (sz : Nat) (a : Nat) (p0 : Int32) (y : DD × Int32) (hc : a < G.1) (hk : G.2.1 a = 6) (hF : FX6_meanAround G M a p0 = some y) : Met l yX6_meanAround wuX6_meanAround ({ frames := 0, cells := 0, slots := 0, locals := 0 }) (va_Pc [.ref (ad a), .int p0] (kB D ct ad Z G M sz)) (va_Qi (fun (q : Int32) (_ : Unit) => q = y.2) (fun _ t => kE D ct ad G (wA ad G sz) y.1 t) (wA ad G sz)) 0 0 (wA ad G sz) := by
  refine Met.ofW (cc := cX6_meanAround) (maxL := 4) (ret := (some .int)) (by decide) rfl ?_
  intro p e s m args below meth c s₁ B hml hv
  obtain ⟨rfl, hsz, hP, hK, hD0, hZ, hN⟩ := hv
  have hx := B.exec
  have hb := B.bytes
  have hr := B.returns
  have hts := atoms_spec (ws := wuX6_meanAround) B.pre
  have hown : s.vm.findClass RX6 = some m.cls := findClass_of_methodNamed B.named
  have hlocks := B.notSynchronized
  subst hsz
  have hD := wD_self (sz := s.heap.size) hD0
  have hA9 : ∀ q, s.heap.size ≤ q → wA ad G s.heap.size q := fun q h => Or.inr h
  generalize hAe : wA ad G s.heap.size = A at hD hA9 hZ ⊢
  have hS : va_S A s.heap s.heap [] := va_S.rf
  have hl := lv_entry ([.ref (ad a), .int p0]) (n := 4) (Nat.le_of_ble_eq_true rfl)
  rw [lg_entry_eq]
  generalize (lg_sl ([.ref (ad a), .int p0]) ++ List.replicate (4 - (lg_sl ([.ref (ad a), .int p0])).length) Slot.unset).toArray = ls at hl ⊢
  have hl : lv_has ls 4 [(0, .ref (ad a)), (1, .int p0)] := hl
  unfold FX6_meanAround at hF
  refine lv_aload_n hx hb dX6_meanAround_0 rfl (lv_at hl 0 rfl) ?_
  refine va_get (D := D) (ci := 6) (v := va_re ad (M.2 a 8)) (C := RX6) (T := TX6) (N := 14) hx hb hts (mus hf_X6) hown hK hP a (wld_o ct ad G M hc hk (by decide)) rfl 8 (by decide) (hts (.fieldLink RX6 36 "VideoSuite$Samples" "around" "[I") (mu mw_544)) (fun _ h9 => h9) rfl dX6_meanAround_1 ?_
  refine lv_iconst (v := (0 : Int32)) hx hb dX6_meanAround_4 (by decide) ?_
  obtain ⟨b1, ho1, hc1, hk1, hF⟩ := dr_some hF
  refine W_st (st' := [.int (0 : Int32), .ref (ad b1)]) (by rw [va_some ho1]) ?_
  obtain ⟨hvc, hF⟩ := chk_some hF
  refine va_iald hx hb hK hP b1 1 (wld_i ct ad G M hc1 hk1) rfl hvc dX6_meanAround_5 ?_
  obtain ⟨x2, ex2, hF⟩ := ltt_some hF
  refine lv_topi (fun zx2 ezx2 => ?_)
  obtain rfl : x2 = zx2 := ex2.trans ezx2.symm
  refine lv_aload_n hx hb dX6_meanAround_6 rfl (lv_at hl 0 rfl) ?_
  refine va_get (D := D) (ci := 6) (v := va_re ad (M.2 a 8)) (C := RX6) (T := TX6) (N := 14) hx hb hts (mus hf_X6) hown hK hP a (wld_o ct ad G M hc hk (by decide)) rfl 8 (by decide) (hts (.fieldLink RX6 36 "VideoSuite$Samples" "around" "[I") (mu mw_544)) (fun _ h9 => h9) rfl dX6_meanAround_7 ?_
  refine lv_iconst (v := (1 : Int32)) hx hb dX6_meanAround_10 (by decide) ?_
  refine W_st (st' := [.int (1 : Int32), .ref (ad b1), .int x2]) (by rw [va_some ho1]) ?_
  obtain ⟨hvc, hF⟩ := chk_some hF
  refine va_iald hx hb hK hP b1 1 (wld_i ct ad G M hc1 hk1) rfl hvc dX6_meanAround_11 ?_
  obtain ⟨x3, ex3, hF⟩ := ltt_some hF
  refine lv_topi (fun zx3 ezx3 => ?_)
  obtain rfl : x3 = zx3 := ex3.trans ezx3.symm
  refine lv_iadd hx hb dX6_meanAround_12 ?_
  obtain ⟨x4, ex4, hF⟩ := ltt_some hF
  refine lv_topi (fun zx4 ezx4 => ?_)
  obtain rfl : x4 = zx4 := ex4.trans ezx4.symm
  refine lv_aload_n hx hb dX6_meanAround_13 rfl (lv_at hl 0 rfl) ?_
  refine va_get (D := D) (ci := 6) (v := va_re ad (M.2 a 8)) (C := RX6) (T := TX6) (N := 14) hx hb hts (mus hf_X6) hown hK hP a (wld_o ct ad G M hc hk (by decide)) rfl 8 (by decide) (hts (.fieldLink RX6 36 "VideoSuite$Samples" "around" "[I") (mu mw_544)) (fun _ h9 => h9) rfl dX6_meanAround_14 ?_
  refine lv_iconst (v := (2 : Int32)) hx hb dX6_meanAround_17 (by decide) ?_
  refine W_st (st' := [.int (2 : Int32), .ref (ad b1), .int x4]) (by rw [va_some ho1]) ?_
  obtain ⟨hvc, hF⟩ := chk_some hF
  refine va_iald hx hb hK hP b1 1 (wld_i ct ad G M hc1 hk1) rfl hvc dX6_meanAround_18 ?_
  obtain ⟨x5, ex5, hF⟩ := ltt_some hF
  refine lv_topi (fun zx5 ezx5 => ?_)
  obtain rfl : x5 = zx5 := ex5.trans ezx5.symm
  refine lv_iadd hx hb dX6_meanAround_19 ?_
  obtain ⟨x6, ex6, hF⟩ := ltt_some hF
  refine lv_topi (fun zx6 ezx6 => ?_)
  obtain rfl : x6 = zx6 := ex6.trans ezx6.symm
  refine lv_aload_n hx hb dX6_meanAround_20 rfl (lv_at hl 0 rfl) ?_
  refine va_get (D := D) (ci := 6) (v := va_re ad (M.2 a 8)) (C := RX6) (T := TX6) (N := 14) hx hb hts (mus hf_X6) hown hK hP a (wld_o ct ad G M hc hk (by decide)) rfl 8 (by decide) (hts (.fieldLink RX6 36 "VideoSuite$Samples" "around" "[I") (mu mw_544)) (fun _ h9 => h9) rfl dX6_meanAround_21 ?_
  refine lv_iconst (v := (3 : Int32)) hx hb dX6_meanAround_24 (by decide) ?_
  refine W_st (st' := [.int (3 : Int32), .ref (ad b1), .int x6]) (by rw [va_some ho1]) ?_
  obtain ⟨hvc, hF⟩ := chk_some hF
  refine va_iald hx hb hK hP b1 1 (wld_i ct ad G M hc1 hk1) rfl hvc dX6_meanAround_25 ?_
  obtain ⟨x7, ex7, hF⟩ := ltt_some hF
  refine lv_topi (fun zx7 ezx7 => ?_)
  obtain rfl : x7 = zx7 := ex7.trans ezx7.symm
  refine lv_iadd hx hb dX6_meanAround_26 ?_
  obtain ⟨x8, ex8, hF⟩ := ltt_some hF
  refine lv_topi (fun zx8 ezx8 => ?_)
  obtain rfl : x8 = zx8 := ex8.trans ezx8.symm
  refine lv_istore_n (lv' := [(2, .int x8), (0, .ref (ad a)), (1, .int p0)]) hx hb dX6_meanAround_27 rfl hl (by decide) rfl (fun ls hl => ?_)
  refine lv_aload_n hx hb dX6_meanAround_28 rfl (lv_at hl 1 rfl) ?_
  refine va_get (D := D) (ci := 6) (v := va_re ad (M.2 a 8)) (C := RX6) (T := TX6) (N := 14) hx hb hts (mus hf_X6) hown hK hP a (wld_o ct ad G M hc hk (by decide)) rfl 8 (by decide) (hts (.fieldLink RX6 36 "VideoSuite$Samples" "around" "[I") (mu mw_544)) (fun _ h9 => h9) rfl dX6_meanAround_29 ?_
  refine lv_iconst (v := (5 : Int32)) hx hb dX6_meanAround_32 (by decide) ?_
  refine W_st (st' := [.int (5 : Int32), .ref (ad b1)]) (by rw [va_some ho1]) ?_
  obtain ⟨hvc, hF⟩ := chk_some hF
  refine va_iald hx hb hK hP b1 1 (wld_i ct ad G M hc1 hk1) rfl hvc dX6_meanAround_33 ?_
  obtain ⟨x9, ex9, hF⟩ := ltt_some hF
  refine lv_topi (fun zx9 ezx9 => ?_)
  obtain rfl : x9 = zx9 := ex9.trans ezx9.symm
  refine lv_aload_n hx hb dX6_meanAround_34 rfl (lv_at hl 1 rfl) ?_
  refine va_get (D := D) (ci := 6) (v := va_re ad (M.2 a 8)) (C := RX6) (T := TX6) (N := 14) hx hb hts (mus hf_X6) hown hK hP a (wld_o ct ad G M hc hk (by decide)) rfl 8 (by decide) (hts (.fieldLink RX6 36 "VideoSuite$Samples" "around" "[I") (mu mw_544)) (fun _ h9 => h9) rfl dX6_meanAround_35 ?_
  refine lv_bipush (v := (6 : Int32)) hx hb dX6_meanAround_38 (by decide) ?_
  refine W_st (st' := [.int (6 : Int32), .ref (ad b1), .int x9]) (by rw [va_some ho1]) ?_
  obtain ⟨hvc, hF⟩ := chk_some hF
  refine va_iald hx hb hK hP b1 1 (wld_i ct ad G M hc1 hk1) rfl hvc dX6_meanAround_40 ?_
  obtain ⟨x10, ex10, hF⟩ := ltt_some hF
  refine lv_topi (fun zx10 ezx10 => ?_)
  obtain rfl : x10 = zx10 := ex10.trans ezx10.symm
  refine lv_iadd hx hb dX6_meanAround_41 ?_
  obtain ⟨x11, ex11, hF⟩ := ltt_some hF
  refine lv_topi (fun zx11 ezx11 => ?_)
  obtain rfl : x11 = zx11 := ex11.trans ezx11.symm
  refine lv_aload_n hx hb dX6_meanAround_42 rfl (lv_at hl 1 rfl) ?_
  refine va_get (D := D) (ci := 6) (v := va_re ad (M.2 a 8)) (C := RX6) (T := TX6) (N := 14) hx hb hts (mus hf_X6) hown hK hP a (wld_o ct ad G M hc hk (by decide)) rfl 8 (by decide) (hts (.fieldLink RX6 36 "VideoSuite$Samples" "around" "[I") (mu mw_544)) (fun _ h9 => h9) rfl dX6_meanAround_43 ?_
  refine lv_bipush (v := (7 : Int32)) hx hb dX6_meanAround_46 (by decide) ?_
  refine W_st (st' := [.int (7 : Int32), .ref (ad b1), .int x11]) (by rw [va_some ho1]) ?_
  obtain ⟨hvc, hF⟩ := chk_some hF
  refine va_iald hx hb hK hP b1 1 (wld_i ct ad G M hc1 hk1) rfl hvc dX6_meanAround_48 ?_
  obtain ⟨x12, ex12, hF⟩ := ltt_some hF
  refine lv_topi (fun zx12 ezx12 => ?_)
  obtain rfl : x12 = zx12 := ex12.trans ezx12.symm
  refine lv_iadd hx hb dX6_meanAround_49 ?_
  obtain ⟨x13, ex13, hF⟩ := ltt_some hF
  refine lv_topi (fun zx13 ezx13 => ?_)
  obtain rfl : x13 = zx13 := ex13.trans ezx13.symm
  refine lv_aload_n hx hb dX6_meanAround_50 rfl (lv_at hl 1 rfl) ?_
  refine va_get (D := D) (ci := 6) (v := va_re ad (M.2 a 8)) (C := RX6) (T := TX6) (N := 14) hx hb hts (mus hf_X6) hown hK hP a (wld_o ct ad G M hc hk (by decide)) rfl 8 (by decide) (hts (.fieldLink RX6 36 "VideoSuite$Samples" "around" "[I") (mu mw_544)) (fun _ h9 => h9) rfl dX6_meanAround_51 ?_
  refine lv_bipush (v := (8 : Int32)) hx hb dX6_meanAround_54 (by decide) ?_
  refine W_st (st' := [.int (8 : Int32), .ref (ad b1), .int x13]) (by rw [va_some ho1]) ?_
  obtain ⟨hvc, hF⟩ := chk_some hF
  refine va_iald hx hb hK hP b1 1 (wld_i ct ad G M hc1 hk1) rfl hvc dX6_meanAround_56 ?_
  obtain ⟨x14, ex14, hF⟩ := ltt_some hF
  refine lv_topi (fun zx14 ezx14 => ?_)
  obtain rfl : x14 = zx14 := ex14.trans ezx14.symm
  refine lv_iadd hx hb dX6_meanAround_57 ?_
  obtain ⟨x15, ex15, hF⟩ := ltt_some hF
  refine lv_topi (fun zx15 ezx15 => ?_)
  obtain rfl : x15 = zx15 := ex15.trans ezx15.symm
  refine lv_istore_n (lv' := [(3, .int x15), (2, .int x8), (0, .ref (ad a)), (1, .int p0)]) hx hb dX6_meanAround_58 rfl hl (by decide) rfl (fun ls hl => ?_)
  refine lv_iload_n hx hb dX6_meanAround_59 rfl (lv_at hl 3 rfl) ?_
  refine lv_iconst (v := (3 : Int32)) hx hb dX6_meanAround_60 (by decide) ?_
  refine lv_iand hx hb dX6_meanAround_61 ?_
  obtain ⟨x16, ex16, hF⟩ := ltt_some hF
  refine lv_topi (fun zx16 ezx16 => ?_)
  obtain rfl : x16 = zx16 := ex16.trans ezx16.symm
  by_cases c17 : x16 = (0 : Int32)
  · rw [if_pos c17] at hF
    refine lv_tableIn (tgt := 88) hx hb dX6_meanAround_62 (by rw [c17]; decide) (by rw [c17]; decide) (by rw [c17]; rfl) (by decide) ?_
    refine lv_sipush (v := (128 : Int32)) hx hb dX6_meanAround_88 (by decide) ?_
    obtain rfl := Option.some.inj hF
    exact W.iret (v := (128 : Int32)) hx hb hr (fun t ht hW => ⟨⟨_, (), rfl, rfl, ⟨by rw [ht]; exact hP, va_K.moved hW.alike hK, hD⟩⟩, hS.F ht⟩) hS.2.2 dX6_meanAround_91
  · rw [if_neg c17] at hF
    by_cases c18 : x16 = (1 : Int32)
    · rw [if_pos c18] at hF
      refine lv_tableIn (tgt := 92) hx hb dX6_meanAround_62 (by rw [c18]; decide) (by rw [c18]; decide) (by rw [c18]; rfl) (by decide) ?_
      refine lv_iload_n hx hb dX6_meanAround_92 rfl (lv_at hl 1 rfl) ?_
      refine lv_iconst (v := (2 : Int32)) hx hb dX6_meanAround_93 (by decide) ?_
      refine lv_iadd hx hb dX6_meanAround_94 ?_
      obtain ⟨x19, ex19, hF⟩ := ltt_some hF
      refine lv_topi (fun zx19 ezx19 => ?_)
      obtain rfl : x19 = zx19 := ex19.trans ezx19.symm
      refine lv_iconst (v := (2 : Int32)) hx hb dX6_meanAround_95 (by decide) ?_
      refine lv_ishr hx hb dX6_meanAround_96 ?_
      obtain ⟨x20, ex20, hF⟩ := ltt_some hF
      refine lv_topi (fun zx20 ezx20 => ?_)
      obtain rfl : x20 = zx20 := ex20.trans ezx20.symm
      obtain rfl := Option.some.inj hF
      exact W.iret (v := x20) hx hb hr (fun t ht hW => ⟨⟨_, (), rfl, rfl, ⟨by rw [ht]; exact hP, va_K.moved hW.alike hK, hD⟩⟩, hS.F ht⟩) hS.2.2 dX6_meanAround_97
    · rw [if_neg c18] at hF
      by_cases c21 : x16 = (2 : Int32)
      · rw [if_pos c21] at hF
        refine lv_tableIn (tgt := 98) hx hb dX6_meanAround_62 (by rw [c21]; decide) (by rw [c21]; decide) (by rw [c21]; rfl) (by decide) ?_
        refine lv_iload_n hx hb dX6_meanAround_98 rfl (lv_at hl 0 rfl) ?_
        refine lv_iconst (v := (2 : Int32)) hx hb dX6_meanAround_99 (by decide) ?_
        refine lv_iadd hx hb dX6_meanAround_100 ?_
        obtain ⟨x22, ex22, hF⟩ := ltt_some hF
        refine lv_topi (fun zx22 ezx22 => ?_)
        obtain rfl : x22 = zx22 := ex22.trans ezx22.symm
        refine lv_iconst (v := (2 : Int32)) hx hb dX6_meanAround_101 (by decide) ?_
        refine lv_ishr hx hb dX6_meanAround_102 ?_
        obtain ⟨x23, ex23, hF⟩ := ltt_some hF
        refine lv_topi (fun zx23 ezx23 => ?_)
        obtain rfl : x23 = zx23 := ex23.trans ezx23.symm
        obtain rfl := Option.some.inj hF
        exact W.iret (v := x23) hx hb hr (fun t ht hW => ⟨⟨_, (), rfl, rfl, ⟨by rw [ht]; exact hP, va_K.moved hW.alike hK, hD⟩⟩, hS.F ht⟩) hS.2.2 dX6_meanAround_103
      · rw [if_neg c21] at hF
        obtain ⟨hsw, hF⟩ := chk_some hF
        refine lv_tableOut (tgt := 104) hx hb dX6_meanAround_62 hsw (by decide) ?_
        refine lv_iload_n hx hb dX6_meanAround_104 rfl (lv_at hl 1 rfl) ?_
        refine lv_iload_n hx hb dX6_meanAround_105 rfl (lv_at hl 0 rfl) ?_
        refine lv_iadd hx hb dX6_meanAround_106 ?_
        obtain ⟨x24, ex24, hF⟩ := ltt_some hF
        refine lv_topi (fun zx24 ezx24 => ?_)
        obtain rfl : x24 = zx24 := ex24.trans ezx24.symm
        refine lv_iconst (v := (4 : Int32)) hx hb dX6_meanAround_107 (by decide) ?_
        refine lv_iadd hx hb dX6_meanAround_108 ?_
        obtain ⟨x25, ex25, hF⟩ := ltt_some hF
        refine lv_topi (fun zx25 ezx25 => ?_)
        obtain rfl : x25 = zx25 := ex25.trans ezx25.symm
        refine lv_iconst (v := (3 : Int32)) hx hb dX6_meanAround_109 (by decide) ?_
        refine lv_ishr hx hb dX6_meanAround_110 ?_
        obtain ⟨x26, ex26, hF⟩ := ltt_some hF
        refine lv_topi (fun zx26 ezx26 => ?_)
        obtain rfl : x26 = zx26 := ex26.trans ezx26.symm
        obtain rfl := Option.some.inj hF
        exact W.iret (v := x26) hx hb hr (fun t ht hW => ⟨⟨_, (), rfl, rfl, ⟨by rw [ht]; exact hP, va_K.moved hW.alike hK, hD⟩⟩, hS.F ht⟩) hS.2.2 dX6_meanAround_111
theorem dX6_measured_0 : decode cX6_measured 0 = .ok (.iload_n 0, 1) := by decide +kernel
theorem dX6_measured_1 : decode cX6_measured 1 = .ok (.ifCond .ge 8, 3) := by decide +kernel
theorem dX6_measured_4 : decode cX6_measured 4 = .ok (.iload_n 0, 1) := by decide +kernel
theorem dX6_measured_5 : decode cX6_measured 5 = .ok (.ineg, 1) := by decide +kernel
theorem dX6_measured_6 : decode cX6_measured 6 = .ok (.goto 4, 3) := by decide +kernel
theorem dX6_measured_9 : decode cX6_measured 9 = .ok (.iload_n 0, 1) := by decide +kernel
theorem dX6_measured_10 : decode cX6_measured 10 = .ok (.iload_n 1, 1) := by decide +kernel
theorem dX6_measured_11 : decode cX6_measured 11 = .ok (.imul, 1) := by decide +kernel
theorem dX6_measured_12 : decode cX6_measured 12 = .ok (.iload_n 2, 1) := by decide +kernel
theorem dX6_measured_13 : decode cX6_measured 13 = .ok (.iadd, 1) := by decide +kernel
theorem dX6_measured_14 : decode cX6_measured 14 = .ok (.iload_n 3, 1) := by decide +kernel
theorem dX6_measured_15 : decode cX6_measured 15 = .ok (.ishr, 1) := by decide +kernel
theorem dX6_measured_16 : decode cX6_measured 16 = .ok (.istore 4, 2) := by decide +kernel
theorem dX6_measured_18 : decode cX6_measured 18 = .ok (.iload 4, 2) := by decide +kernel
theorem dX6_measured_20 : decode cX6_measured 20 = .ok (.sipush 2000, 3) := by decide +kernel
theorem dX6_measured_23 : decode cX6_measured 23 = .ok (.if_icmp .le 9, 3) := by decide +kernel
theorem dX6_measured_26 : decode cX6_measured 26 = .ok (.sipush 2000, 3) := by decide +kernel
theorem dX6_measured_29 : decode cX6_measured 29 = .ok (.goto 5, 3) := by decide +kernel
theorem dX6_measured_32 : decode cX6_measured 32 = .ok (.iload 4, 2) := by decide +kernel
theorem dX6_measured_34 : decode cX6_measured 34 = .ok (.istore 4, 2) := by decide +kernel
theorem dX6_measured_36 : decode cX6_measured 36 = .ok (.iload_n 0, 1) := by decide +kernel
theorem dX6_measured_37 : decode cX6_measured 37 = .ok (.ifCond .ge 9, 3) := by decide +kernel
theorem dX6_measured_40 : decode cX6_measured 40 = .ok (.iload 4, 2) := by decide +kernel
theorem dX6_measured_42 : decode cX6_measured 42 = .ok (.ineg, 1) := by decide +kernel
theorem dX6_measured_43 : decode cX6_measured 43 = .ok (.goto 5, 3) := by decide +kernel
theorem dX6_measured_46 : decode cX6_measured 46 = .ok (.iload 4, 2) := by decide +kernel
theorem dX6_measured_48 : decode cX6_measured 48 = .ok (.ireturn, 1) := by decide +kernel
def FX6_measured (G : GG) (M : DD) (p0 : Int32) (p1 : Int32) (p2 : Int32) (p3 : Int32) : Option (DD × Int32) :=
  bnd (if ((0 : Int32)) ≤ p0 then (some (p0)) else
  (ltt (-p0) fun x11 =>
  some (x11))) fun (y1 : Int32) =>
  ltt ((y1 * p1)) fun x2 =>
  ltt ((x2 + p2)) fun x3 =>
  ltt ((x3 >>> (p3 &&& 31))) fun x4 =>
  bnd (if x4 ≤ ((2000 : Int32)) then (some (x4)) else
  (some ((2000 : Int32)))) fun (y5 : Int32) =>
  bnd (if ((0 : Int32)) ≤ p0 then (some (y5)) else
  (ltt (-y5) fun x8 =>
  some (x8))) fun (y6 : Int32) =>
  some (M, y6)
set_option maxHeartbeats 4000000 in
set_option maxRecDepth 100000 in
theorem kX6_measured (l : Launch) (D : va_G) (ct : CT) (ad : Nat → Nat) (Z : Nat → Nat) (G : GG) (M : DD) (sz : Nat) (p0 : Int32) (p1 : Int32) (p2 : Int32) (p3 : Int32) (y : DD × Int32) (hF : FX6_measured G M p0 p1 p2 p3 = some y) : Met l yX6_measured wuX6_measured ({ frames := 0, cells := 0, slots := 0, locals := 0 }) (va_Pc [.int p0, .int p1, .int p2, .int p3] (kB D ct ad Z G M sz)) (va_Qi (fun (q : Int32) (_ : Unit) => q = y.2) (fun _ t => kE D ct ad G (wA ad G sz) y.1 t) (wA ad G sz)) 0 0 (wA ad G sz) := by
  refine Met.ofW (cc := cX6_measured) (maxL := 5) (ret := (some .int)) (by decide) rfl ?_
  intro p e s m args below meth c s₁ B hml hv
  obtain ⟨rfl, hsz, hP, hK, hD0, hZ, hN⟩ := hv
  have hx := B.exec
  have hb := B.bytes
  have hr := B.returns
  have hts := atoms_spec (ws := wuX6_measured) B.pre
  have hown : s.vm.findClass RX6 = some m.cls := findClass_of_methodNamed B.named
  have hlocks := B.notSynchronized
  subst hsz
  have hD := wD_self (sz := s.heap.size) hD0
  have hA9 : ∀ q, s.heap.size ≤ q → wA ad G s.heap.size q := fun q h => Or.inr h
  generalize hAe : wA ad G s.heap.size = A at hD hA9 hZ ⊢
  have hS : va_S A s.heap s.heap [] := va_S.rf
  have hl := lv_entry ([.int p0, .int p1, .int p2, .int p3]) (n := 5) (Nat.le_of_ble_eq_true rfl)
  rw [lg_entry_eq]
  generalize (lg_sl ([.int p0, .int p1, .int p2, .int p3]) ++ List.replicate (5 - (lg_sl ([.int p0, .int p1, .int p2, .int p3])).length) Slot.unset).toArray = ls at hl ⊢
  have hl : lv_has ls 5 [(0, .int p0), (1, .int p1), (2, .int p2), (3, .int p3)] := hl
  unfold FX6_measured at hF
  refine lv_iload_n hx hb dX6_measured_0 rfl (lv_at hl 0 rfl) ?_
  obtain ⟨y1, hy1, hF⟩ := bnd_some hF
  have J1 : ∀ (H : Heap) (locs : List Loc) (ls : Array Slot), va_P D classes (wld ct ad G M) H → va_D A (wld ct ad G M) → va_S A s.heap H locs → lv_has ls 5 [(0, .int p0), (1, .int p1), (2, .int p2), (3, .int p3)] → W p l e (headSpec wuX6_measured ({ frames := 0, cells := 0, slots := 0, locals := 0 })).room s m ([.int p0, .int p1, .int p2, .int p3] : List Value).toArray below meth c H locs 0 0 (MQ below (va_Qi (fun (q : Int32) (_ : Unit) => q = y.2) (fun _ t => kE D ct ad G A y.1 t) A) ([.int p0, .int p1, .int p2, .int p3] : List Value).toArray s 0 0 A) (F0 m 10 ls [.int y1]) := by
    intro H locs ls hP hD hS hl
    refine lv_iload_n hx hb dX6_measured_10 rfl (lv_at hl 1 rfl) ?_
    refine lv_imul hx hb dX6_measured_11 ?_
    obtain ⟨x2, ex2, hF⟩ := ltt_some hF
    refine lv_topi (fun zx2 ezx2 => ?_)
    obtain rfl : x2 = zx2 := ex2.trans ezx2.symm
    refine lv_iload_n hx hb dX6_measured_12 rfl (lv_at hl 2 rfl) ?_
    refine lv_iadd hx hb dX6_measured_13 ?_
    obtain ⟨x3, ex3, hF⟩ := ltt_some hF
    refine lv_topi (fun zx3 ezx3 => ?_)
    obtain rfl : x3 = zx3 := ex3.trans ezx3.symm
    refine lv_iload_n hx hb dX6_measured_14 rfl (lv_at hl 3 rfl) ?_
    refine lv_ishr hx hb dX6_measured_15 ?_
    obtain ⟨x4, ex4, hF⟩ := ltt_some hF
    refine lv_topi (fun zx4 ezx4 => ?_)
    obtain rfl : x4 = zx4 := ex4.trans ezx4.symm
    refine lv_istore (lv' := [(4, .int x4), (0, .int p0), (1, .int p1), (2, .int p2), (3, .int p3)]) hx hb dX6_measured_16 hl (by decide) rfl (fun ls hl => ?_)
    refine lv_iload hx hb dX6_measured_18 (lv_at hl 0 rfl) ?_
    refine lv_sipush (v := (2000 : Int32)) hx hb dX6_measured_20 (by decide) ?_
    obtain ⟨y5, hy5, hF⟩ := bnd_some hF
    have J5 : ∀ (H : Heap) (locs : List Loc) (ls : Array Slot), va_P D classes (wld ct ad G M) H → va_D A (wld ct ad G M) → va_S A s.heap H locs → lv_has ls 5 [(4, .int x4), (0, .int p0), (1, .int p1), (2, .int p2), (3, .int p3)] → W p l e (headSpec wuX6_measured ({ frames := 0, cells := 0, slots := 0, locals := 0 })).room s m ([.int p0, .int p1, .int p2, .int p3] : List Value).toArray below meth c H locs 0 0 (MQ below (va_Qi (fun (q : Int32) (_ : Unit) => q = y.2) (fun _ t => kE D ct ad G A y.1 t) A) ([.int p0, .int p1, .int p2, .int p3] : List Value).toArray s 0 0 A) (F0 m 34 ls [.int y5]) := by
      intro H locs ls hP hD hS hl
      refine lv_istore (lv' := [(4, .int y5), (0, .int p0), (1, .int p1), (2, .int p2), (3, .int p3)]) hx hb dX6_measured_34 hl (by decide) rfl (fun ls hl => ?_)
      refine lv_iload_n hx hb dX6_measured_36 rfl (lv_at hl 1 rfl) ?_
      obtain ⟨y6, hy6, hF⟩ := bnd_some hF
      have J6 : ∀ (H : Heap) (locs : List Loc) (ls : Array Slot), va_P D classes (wld ct ad G M) H → va_D A (wld ct ad G M) → va_S A s.heap H locs → lv_has ls 5 [(4, .int y5), (0, .int p0), (1, .int p1), (2, .int p2), (3, .int p3)] → W p l e (headSpec wuX6_measured ({ frames := 0, cells := 0, slots := 0, locals := 0 })).room s m ([.int p0, .int p1, .int p2, .int p3] : List Value).toArray below meth c H locs 0 0 (MQ below (va_Qi (fun (q : Int32) (_ : Unit) => q = y.2) (fun _ t => kE D ct ad G A y.1 t) A) ([.int p0, .int p1, .int p2, .int p3] : List Value).toArray s 0 0 A) (F0 m 48 ls [.int y6]) := by
        intro H locs ls hP hD hS hl
        obtain rfl := Option.some.inj hF
        exact W.iret (v := y6) hx hb hr (fun t ht hW => ⟨⟨_, (), rfl, rfl, ⟨by rw [ht]; exact hP, va_K.moved hW.alike hK, hD⟩⟩, hS.F ht⟩) hS.2.2 dX6_measured_48
      clear hF
      have hF := hy6
      clear hy6
      refine lv_if_ge (tgt := 46) hx hb dX6_measured_37 (by decide) (fun c7 => ?_) (fun c7 => ?_)
      · rw [if_pos c7] at hF
        refine lv_iload hx hb dX6_measured_46 (lv_at hl 0 rfl) ?_
        obtain rfl := Option.some.inj hF
        exact J6 _ _ _ hP hD hS (lv_sub hl [0, 1, 2, 3, 4] rfl)
      · rw [if_neg c7] at hF
        refine lv_iload hx hb dX6_measured_40 (lv_at hl 0 rfl) ?_
        refine lv_ineg hx hb dX6_measured_42 ?_
        obtain ⟨x8, ex8, hF⟩ := ltt_some hF
        refine lv_topi (fun zx8 ezx8 => ?_)
        obtain rfl : x8 = zx8 := ex8.trans ezx8.symm
        refine lv_goto (tgt := 48) hx hb dX6_measured_43 (by decide) ?_
        obtain rfl := Option.some.inj hF
        exact J6 _ _ _ hP hD hS (lv_sub hl [0, 1, 2, 3, 4] rfl)
    clear hF
    have hF := hy5
    clear hy5
    refine lv_icmp_le (tgt := 32) hx hb dX6_measured_23 (by decide) (fun c9 => ?_) (fun c9 => ?_)
    · rw [if_pos c9] at hF
      refine lv_iload hx hb dX6_measured_32 (lv_at hl 0 rfl) ?_
      obtain rfl := Option.some.inj hF
      exact J5 _ _ _ hP hD hS (lv_sub hl [0, 1, 2, 3, 4] rfl)
    · rw [if_neg c9] at hF
      refine lv_sipush (v := (2000 : Int32)) hx hb dX6_measured_26 (by decide) ?_
      refine lv_goto (tgt := 34) hx hb dX6_measured_29 (by decide) ?_
      obtain rfl := Option.some.inj hF
      exact J5 _ _ _ hP hD hS (lv_sub hl [0, 1, 2, 3, 4] rfl)
  clear hF
  have hF := hy1
  clear hy1
  refine lv_if_ge (tgt := 9) hx hb dX6_measured_1 (by decide) (fun c10 => ?_) (fun c10 => ?_)
  · rw [if_pos c10] at hF
    refine lv_iload_n hx hb dX6_measured_9 rfl (lv_at hl 0 rfl) ?_
    obtain rfl := Option.some.inj hF
    exact J1 _ _ _ hP hD hS (lv_sub hl [0, 1, 2, 3] rfl)
  · rw [if_neg c10] at hF
    refine lv_iload_n hx hb dX6_measured_4 rfl (lv_at hl 0 rfl) ?_
    refine lv_ineg hx hb dX6_measured_5 ?_
    obtain ⟨x11, ex11, hF⟩ := ltt_some hF
    refine lv_topi (fun zx11 ezx11 => ?_)
    obtain rfl : x11 = zx11 := ex11.trans ezx11.symm
    refine lv_goto (tgt := 10) hx hb dX6_measured_6 (by decide) ?_
    obtain rfl := Option.some.inj hF
    exact J1 _ _ _ hP hD hS (lv_sub hl [0, 1, 2, 3] rfl)
theorem dX6_normAt_0 : decode cX6_normAt 0 = .ok (.iconst 3, 1) := by decide +kernel
theorem dX6_normAt_1 : decode cX6_normAt 1 = .ok (.iload_n 0, 1) := by decide +kernel
theorem dX6_normAt_2 : decode cX6_normAt 2 = .ok (.bipush 6, 2) := by decide +kernel
theorem dX6_normAt_4 : decode cX6_normAt 4 = .ok (.irem, 1) := by decide +kernel
theorem dX6_normAt_5 : decode cX6_normAt 5 = .ok (.imul, 1) := by decide +kernel
theorem dX6_normAt_6 : decode cX6_normAt 6 = .ok (.iload_n 1, 1) := by decide +kernel
theorem dX6_normAt_7 : decode cX6_normAt 7 = .ok (.iload_n 2, 1) := by decide +kernel
theorem dX6_normAt_8 : decode cX6_normAt 8 = .ok (.ior, 1) := by decide +kernel
theorem dX6_normAt_9 : decode cX6_normAt 9 = .ok (.iconst 2, 1) := by decide +kernel
theorem dX6_normAt_10 : decode cX6_normAt 10 = .ok (.irem, 1) := by decide +kernel
theorem dX6_normAt_11 : decode cX6_normAt 11 = .ok (.ifCond .ne 7, 3) := by decide +kernel
theorem dX6_normAt_14 : decode cX6_normAt 14 = .ok (.iconst 0, 1) := by decide +kernel
theorem dX6_normAt_15 : decode cX6_normAt 15 = .ok (.goto 17, 3) := by decide +kernel
theorem dX6_normAt_18 : decode cX6_normAt 18 = .ok (.iload_n 1, 1) := by decide +kernel
theorem dX6_normAt_19 : decode cX6_normAt 19 = .ok (.iload_n 2, 1) := by decide +kernel
theorem dX6_normAt_20 : decode cX6_normAt 20 = .ok (.iand, 1) := by decide +kernel
theorem dX6_normAt_21 : decode cX6_normAt 21 = .ok (.iconst 2, 1) := by decide +kernel
theorem dX6_normAt_22 : decode cX6_normAt 22 = .ok (.irem, 1) := by decide +kernel
theorem dX6_normAt_23 : decode cX6_normAt 23 = .ok (.iconst 1, 1) := by decide +kernel
theorem dX6_normAt_24 : decode cX6_normAt 24 = .ok (.if_icmp .ne 7, 3) := by decide +kernel
theorem dX6_normAt_27 : decode cX6_normAt 27 = .ok (.iconst 2, 1) := by decide +kernel
theorem dX6_normAt_28 : decode cX6_normAt 28 = .ok (.goto 4, 3) := by decide +kernel
theorem dX6_normAt_31 : decode cX6_normAt 31 = .ok (.iconst 1, 1) := by decide +kernel
theorem dX6_normAt_32 : decode cX6_normAt 32 = .ok (.iadd, 1) := by decide +kernel
theorem dX6_normAt_33 : decode cX6_normAt 33 = .ok (.ireturn, 1) := by decide +kernel
def FX6_normAt (G : GG) (M : DD) (p0 : Int32) (p1 : Int32) (p2 : Int32) : Option (DD × Int32) :=
  ltt (p0 - p0 / ((6 : Int32)) * ((6 : Int32))) fun x1 =>
  ltt ((((3 : Int32)) * x1)) fun x2 =>
  ltt ((p1 ||| p2)) fun x3 =>
  ltt (x3 - x3 / ((2 : Int32)) * ((2 : Int32))) fun x4 =>
  bnd (if x4 = ((0 : Int32)) then (some ((0 : Int32))) else
  (ltt ((p1 &&& p2)) fun x8 =>
  ltt (x8 - x8 / ((2 : Int32)) * ((2 : Int32))) fun x9 =>
  bnd (if x9 = ((1 : Int32)) then (some ((2 : Int32))) else
  (some ((1 : Int32)))) fun (y10 : Int32) =>
  some (y10))) fun (y5 : Int32) =>
  ltt ((x2 + y5)) fun x6 =>
  some (M, x6)
set_option maxHeartbeats 4000000 in
set_option maxRecDepth 100000 in
theorem kX6_normAt (l : Launch) (D : va_G) (ct : CT) (ad : Nat → Nat) (Z : Nat → Nat) (G : GG) (M : DD) (sz : Nat) (p0 : Int32) (p1 : Int32) (p2 : Int32) (y : DD × Int32) (hF : FX6_normAt G M p0 p1 p2 = some y) : Met l yX6_normAt wuX6_normAt ({ frames := 0, cells := 0, slots := 0, locals := 0 }) (va_Pc [.int p0, .int p1, .int p2] (kB D ct ad Z G M sz)) (va_Qi (fun (q : Int32) (_ : Unit) => q = y.2) (fun _ t => kE D ct ad G (wA ad G sz) y.1 t) (wA ad G sz)) 0 0 (wA ad G sz) := by
  refine Met.ofW (cc := cX6_normAt) (maxL := 3) (ret := (some .int)) (by decide) rfl ?_
  intro p e s m args below meth c s₁ B hml hv
  obtain ⟨rfl, hsz, hP, hK, hD0, hZ, hN⟩ := hv
  have hx := B.exec
  have hb := B.bytes
  have hr := B.returns
  have hts := atoms_spec (ws := wuX6_normAt) B.pre
  have hown : s.vm.findClass RX6 = some m.cls := findClass_of_methodNamed B.named
  have hlocks := B.notSynchronized
  subst hsz
  have hD := wD_self (sz := s.heap.size) hD0
  have hA9 : ∀ q, s.heap.size ≤ q → wA ad G s.heap.size q := fun q h => Or.inr h
  generalize hAe : wA ad G s.heap.size = A at hD hA9 hZ ⊢
  have hS : va_S A s.heap s.heap [] := va_S.rf
  have hl := lv_entry ([.int p0, .int p1, .int p2]) (n := 3) (Nat.le_of_ble_eq_true rfl)
  rw [lg_entry_eq]
  generalize (lg_sl ([.int p0, .int p1, .int p2]) ++ List.replicate (3 - (lg_sl ([.int p0, .int p1, .int p2])).length) Slot.unset).toArray = ls at hl ⊢
  have hl : lv_has ls 3 [(0, .int p0), (1, .int p1), (2, .int p2)] := hl
  unfold FX6_normAt at hF
  refine lv_iconst (v := (3 : Int32)) hx hb dX6_normAt_0 (by decide) ?_
  refine lv_iload_n hx hb dX6_normAt_1 rfl (lv_at hl 0 rfl) ?_
  refine lv_bipush (v := (6 : Int32)) hx hb dX6_normAt_2 (by decide) ?_
  refine lv_irem hx hb dX6_normAt_4 (by decide) ?_
  obtain ⟨x1, ex1, hF⟩ := ltt_some hF
  refine lv_topi (fun zx1 ezx1 => ?_)
  obtain rfl : x1 = zx1 := ex1.trans ezx1.symm
  refine lv_imul hx hb dX6_normAt_5 ?_
  obtain ⟨x2, ex2, hF⟩ := ltt_some hF
  refine lv_topi (fun zx2 ezx2 => ?_)
  obtain rfl : x2 = zx2 := ex2.trans ezx2.symm
  refine lv_iload_n hx hb dX6_normAt_6 rfl (lv_at hl 1 rfl) ?_
  refine lv_iload_n hx hb dX6_normAt_7 rfl (lv_at hl 2 rfl) ?_
  refine lv_ior hx hb dX6_normAt_8 ?_
  obtain ⟨x3, ex3, hF⟩ := ltt_some hF
  refine lv_topi (fun zx3 ezx3 => ?_)
  obtain rfl : x3 = zx3 := ex3.trans ezx3.symm
  refine lv_iconst (v := (2 : Int32)) hx hb dX6_normAt_9 (by decide) ?_
  refine lv_irem hx hb dX6_normAt_10 (by decide) ?_
  obtain ⟨x4, ex4, hF⟩ := ltt_some hF
  refine lv_topi (fun zx4 ezx4 => ?_)
  obtain rfl : x4 = zx4 := ex4.trans ezx4.symm
  obtain ⟨y5, hy5, hF⟩ := bnd_some hF
  have J5 : ∀ (H : Heap) (locs : List Loc) (ls : Array Slot), va_P D classes (wld ct ad G M) H → va_D A (wld ct ad G M) → va_S A s.heap H locs → lv_has ls 3 [(0, .int p0), (1, .int p1), (2, .int p2)] → W p l e (headSpec wuX6_normAt ({ frames := 0, cells := 0, slots := 0, locals := 0 })).room s m ([.int p0, .int p1, .int p2] : List Value).toArray below meth c H locs 0 0 (MQ below (va_Qi (fun (q : Int32) (_ : Unit) => q = y.2) (fun _ t => kE D ct ad G A y.1 t) A) ([.int p0, .int p1, .int p2] : List Value).toArray s 0 0 A) (F0 m 32 ls [.int y5, .int x2]) := by
    intro H locs ls hP hD hS hl
    refine lv_iadd hx hb dX6_normAt_32 ?_
    obtain ⟨x6, ex6, hF⟩ := ltt_some hF
    refine lv_topi (fun zx6 ezx6 => ?_)
    obtain rfl : x6 = zx6 := ex6.trans ezx6.symm
    obtain rfl := Option.some.inj hF
    exact W.iret (v := x6) hx hb hr (fun t ht hW => ⟨⟨_, (), rfl, rfl, ⟨by rw [ht]; exact hP, va_K.moved hW.alike hK, hD⟩⟩, hS.F ht⟩) hS.2.2 dX6_normAt_33
  clear hF
  have hF := hy5
  clear hy5
  refine lv_if_ne (tgt := 18) hx hb dX6_normAt_11 (by decide) (fun c7 => ?_) (fun c7 => ?_)
  · rw [if_neg c7] at hF
    refine lv_iload_n hx hb dX6_normAt_18 rfl (lv_at hl 1 rfl) ?_
    refine lv_iload_n hx hb dX6_normAt_19 rfl (lv_at hl 2 rfl) ?_
    refine lv_iand hx hb dX6_normAt_20 ?_
    obtain ⟨x8, ex8, hF⟩ := ltt_some hF
    refine lv_topi (fun zx8 ezx8 => ?_)
    obtain rfl : x8 = zx8 := ex8.trans ezx8.symm
    refine lv_iconst (v := (2 : Int32)) hx hb dX6_normAt_21 (by decide) ?_
    refine lv_irem hx hb dX6_normAt_22 (by decide) ?_
    obtain ⟨x9, ex9, hF⟩ := ltt_some hF
    refine lv_topi (fun zx9 ezx9 => ?_)
    obtain rfl : x9 = zx9 := ex9.trans ezx9.symm
    refine lv_iconst (v := (1 : Int32)) hx hb dX6_normAt_23 (by decide) ?_
    obtain ⟨y10, hy10, hF⟩ := bnd_some hF
    have J10 : ∀ (H : Heap) (locs : List Loc) (ls : Array Slot), va_P D classes (wld ct ad G M) H → va_D A (wld ct ad G M) → va_S A s.heap H locs → lv_has ls 3 [(0, .int p0), (1, .int p1), (2, .int p2)] → W p l e (headSpec wuX6_normAt ({ frames := 0, cells := 0, slots := 0, locals := 0 })).room s m ([.int p0, .int p1, .int p2] : List Value).toArray below meth c H locs 0 0 (MQ below (va_Qi (fun (q : Int32) (_ : Unit) => q = y.2) (fun _ t => kE D ct ad G A y.1 t) A) ([.int p0, .int p1, .int p2] : List Value).toArray s 0 0 A) (F0 m 32 ls [.int y10, .int x2]) := by
      intro H locs ls hP hD hS hl
      obtain rfl := Option.some.inj hF
      exact J5 _ _ _ hP hD hS (lv_sub hl [0, 1, 2] rfl)
    clear hF
    have hF := hy10
    clear hy10
    refine lv_icmp_ne (tgt := 31) hx hb dX6_normAt_24 (by decide) (fun c11 => ?_) (fun c11 => ?_)
    · rw [if_neg c11] at hF
      refine lv_iconst (v := (1 : Int32)) hx hb dX6_normAt_31 (by decide) ?_
      obtain rfl := Option.some.inj hF
      exact J10 _ _ _ hP hD hS (lv_sub hl [0, 1, 2] rfl)
    · rw [if_pos c11] at hF
      refine lv_iconst (v := (2 : Int32)) hx hb dX6_normAt_27 (by decide) ?_
      refine lv_goto (tgt := 32) hx hb dX6_normAt_28 (by decide) ?_
      obtain rfl := Option.some.inj hF
      exact J10 _ _ _ hP hD hS (lv_sub hl [0, 1, 2] rfl)
  · rw [if_pos c7] at hF
    refine lv_iconst (v := (0 : Int32)) hx hb dX6_normAt_14 (by decide) ?_
    refine lv_goto (tgt := 32) hx hb dX6_normAt_15 (by decide) ?_
    obtain rfl := Option.some.inj hF
    exact J5 _ _ _ hP hD hS (lv_sub hl [0, 1, 2] rfl)
theorem dX6_predictColours_0 : decode cX6_predictColours 0 = .ok (.bipush 8, 2) := by decide +kernel
theorem dX6_predictColours_2 : decode cX6_predictColours 2 = .ok (.aload_n 1, 1) := by decide +kernel
theorem dX6_predictColours_3 : decode cX6_predictColours 3 = .ok (.getfield 83, 3) := by decide +kernel
theorem dX6_predictColours_6 : decode cX6_predictColours 6 = .ok (.imul, 1) := by decide +kernel
theorem dX6_predictColours_7 : decode cX6_predictColours 7 = .ok (.istore 7, 2) := by decide +kernel
theorem dX6_predictColours_9 : decode cX6_predictColours 9 = .ok (.bipush 8, 2) := by decide +kernel
theorem dX6_predictColours_11 : decode cX6_predictColours 11 = .ok (.aload_n 1, 1) := by decide +kernel
theorem dX6_predictColours_12 : decode cX6_predictColours 12 = .ok (.getfield 125, 3) := by decide +kernel
theorem dX6_predictColours_15 : decode cX6_predictColours 15 = .ok (.imul, 1) := by decide +kernel
theorem dX6_predictColours_16 : decode cX6_predictColours 16 = .ok (.istore 8, 2) := by decide +kernel
theorem dX6_predictColours_18 : decode cX6_predictColours 18 = .ok (.iload_n 2, 1) := by decide +kernel
theorem dX6_predictColours_19 : decode cX6_predictColours 19 = .ok (.bipush 7, 2) := by decide +kernel
theorem dX6_predictColours_21 : decode cX6_predictColours 21 = .ok (.iand, 1) := by decide +kernel
theorem dX6_predictColours_22 : decode cX6_predictColours 22 = .ok (.istore 9, 2) := by decide +kernel
theorem dX6_predictColours_24 : decode cX6_predictColours 24 = .ok (.iload_n 3, 1) := by decide +kernel
theorem dX6_predictColours_25 : decode cX6_predictColours 25 = .ok (.bipush 7, 2) := by decide +kernel
theorem dX6_predictColours_27 : decode cX6_predictColours 27 = .ok (.iand, 1) := by decide +kernel
theorem dX6_predictColours_28 : decode cX6_predictColours 28 = .ok (.istore 10, 2) := by decide +kernel
theorem dX6_predictColours_30 : decode cX6_predictColours 30 = .ok (.iconst 0, 1) := by decide +kernel
theorem dX6_predictColours_31 : decode cX6_predictColours 31 = .ok (.istore 11, 2) := by decide +kernel
theorem dX6_predictColours_33 : decode cX6_predictColours 33 = .ok (.iload 11, 2) := by decide +kernel
theorem dX6_predictColours_35 : decode cX6_predictColours 35 = .ok (.iload 4, 2) := by decide +kernel
theorem dX6_predictColours_37 : decode cX6_predictColours 37 = .ok (.iload 4, 2) := by decide +kernel
theorem dX6_predictColours_39 : decode cX6_predictColours 39 = .ok (.imul, 1) := by decide +kernel
theorem dX6_predictColours_40 : decode cX6_predictColours 40 = .ok (.if_icmp .ge 288, 3) := by decide +kernel
theorem dX6_predictColours_43 : decode cX6_predictColours 43 = .ok (.iload_n 2, 1) := by decide +kernel
theorem dX6_predictColours_44 : decode cX6_predictColours 44 = .ok (.iconst 3, 1) := by decide +kernel
theorem dX6_predictColours_45 : decode cX6_predictColours 45 = .ok (.ishr, 1) := by decide +kernel
theorem dX6_predictColours_46 : decode cX6_predictColours 46 = .ok (.iload 11, 2) := by decide +kernel
theorem dX6_predictColours_48 : decode cX6_predictColours 48 = .ok (.iload 4, 2) := by decide +kernel
theorem dX6_predictColours_50 : decode cX6_predictColours 50 = .ok (.irem, 1) := by decide +kernel
theorem dX6_predictColours_51 : decode cX6_predictColours 51 = .ok (.iadd, 1) := by decide +kernel
theorem dX6_predictColours_52 : decode cX6_predictColours 52 = .ok (.istore 12, 2) := by decide +kernel
theorem dX6_predictColours_54 : decode cX6_predictColours 54 = .ok (.iload_n 3, 1) := by decide +kernel
theorem dX6_predictColours_55 : decode cX6_predictColours 55 = .ok (.iconst 3, 1) := by decide +kernel
theorem dX6_predictColours_56 : decode cX6_predictColours 56 = .ok (.ishr, 1) := by decide +kernel
theorem dX6_predictColours_57 : decode cX6_predictColours 57 = .ok (.iload 11, 2) := by decide +kernel
theorem dX6_predictColours_59 : decode cX6_predictColours 59 = .ok (.iload 4, 2) := by decide +kernel
theorem dX6_predictColours_61 : decode cX6_predictColours 61 = .ok (.idiv, 1) := by decide +kernel
theorem dX6_predictColours_62 : decode cX6_predictColours 62 = .ok (.iadd, 1) := by decide +kernel
theorem dX6_predictColours_63 : decode cX6_predictColours 63 = .ok (.istore 13, 2) := by decide +kernel
theorem dX6_predictColours_65 : decode cX6_predictColours 65 = .ok (.iload 12, 2) := by decide +kernel
theorem dX6_predictColours_67 : decode cX6_predictColours 67 = .ok (.ifCond .ge 7, 3) := by decide +kernel
theorem dX6_predictColours_70 : decode cX6_predictColours 70 = .ok (.iconst 0, 1) := by decide +kernel
theorem dX6_predictColours_71 : decode cX6_predictColours 71 = .ok (.goto 19, 3) := by decide +kernel
theorem dX6_predictColours_74 : decode cX6_predictColours 74 = .ok (.iload 12, 2) := by decide +kernel
theorem dX6_predictColours_76 : decode cX6_predictColours 76 = .ok (.iload 7, 2) := by decide +kernel
theorem dX6_predictColours_78 : decode cX6_predictColours 78 = .ok (.if_icmp .lt 10, 3) := by decide +kernel
theorem dX6_predictColours_81 : decode cX6_predictColours 81 = .ok (.iload 7, 2) := by decide +kernel
theorem dX6_predictColours_83 : decode cX6_predictColours 83 = .ok (.iconst 1, 1) := by decide +kernel
theorem dX6_predictColours_84 : decode cX6_predictColours 84 = .ok (.isub, 1) := by decide +kernel
theorem dX6_predictColours_85 : decode cX6_predictColours 85 = .ok (.goto 5, 3) := by decide +kernel
theorem dX6_predictColours_88 : decode cX6_predictColours 88 = .ok (.iload 12, 2) := by decide +kernel
theorem dX6_predictColours_90 : decode cX6_predictColours 90 = .ok (.istore 14, 2) := by decide +kernel
theorem dX6_predictColours_92 : decode cX6_predictColours 92 = .ok (.iload 12, 2) := by decide +kernel
theorem dX6_predictColours_94 : decode cX6_predictColours 94 = .ok (.iconst (-1), 1) := by decide +kernel
theorem dX6_predictColours_95 : decode cX6_predictColours 95 = .ok (.if_icmp .ge 7, 3) := by decide +kernel
theorem dX6_predictColours_98 : decode cX6_predictColours 98 = .ok (.iconst 0, 1) := by decide +kernel
theorem dX6_predictColours_99 : decode cX6_predictColours 99 = .ok (.goto 23, 3) := by decide +kernel
theorem dX6_predictColours_102 : decode cX6_predictColours 102 = .ok (.iload 12, 2) := by decide +kernel
theorem dX6_predictColours_104 : decode cX6_predictColours 104 = .ok (.iload 7, 2) := by decide +kernel
theorem dX6_predictColours_106 : decode cX6_predictColours 106 = .ok (.iconst 1, 1) := by decide +kernel
theorem dX6_predictColours_107 : decode cX6_predictColours 107 = .ok (.isub, 1) := by decide +kernel
theorem dX6_predictColours_108 : decode cX6_predictColours 108 = .ok (.if_icmp .lt 10, 3) := by decide +kernel
theorem dX6_predictColours_111 : decode cX6_predictColours 111 = .ok (.iload 7, 2) := by decide +kernel
theorem dX6_predictColours_113 : decode cX6_predictColours 113 = .ok (.iconst 1, 1) := by decide +kernel
theorem dX6_predictColours_114 : decode cX6_predictColours 114 = .ok (.isub, 1) := by decide +kernel
theorem dX6_predictColours_115 : decode cX6_predictColours 115 = .ok (.goto 7, 3) := by decide +kernel
theorem dX6_predictColours_118 : decode cX6_predictColours 118 = .ok (.iload 12, 2) := by decide +kernel
theorem dX6_predictColours_120 : decode cX6_predictColours 120 = .ok (.iconst 1, 1) := by decide +kernel
theorem dX6_predictColours_121 : decode cX6_predictColours 121 = .ok (.iadd, 1) := by decide +kernel
theorem dX6_predictColours_122 : decode cX6_predictColours 122 = .ok (.istore 15, 2) := by decide +kernel
theorem dX6_predictColours_124 : decode cX6_predictColours 124 = .ok (.iload 13, 2) := by decide +kernel
theorem dX6_predictColours_126 : decode cX6_predictColours 126 = .ok (.ifCond .ge 7, 3) := by decide +kernel
theorem dX6_predictColours_129 : decode cX6_predictColours 129 = .ok (.iconst 0, 1) := by decide +kernel
theorem dX6_predictColours_130 : decode cX6_predictColours 130 = .ok (.goto 19, 3) := by decide +kernel
theorem dX6_predictColours_133 : decode cX6_predictColours 133 = .ok (.iload 13, 2) := by decide +kernel
theorem dX6_predictColours_135 : decode cX6_predictColours 135 = .ok (.iload 8, 2) := by decide +kernel
theorem dX6_predictColours_137 : decode cX6_predictColours 137 = .ok (.if_icmp .lt 10, 3) := by decide +kernel
theorem dX6_predictColours_140 : decode cX6_predictColours 140 = .ok (.iload 8, 2) := by decide +kernel
theorem dX6_predictColours_142 : decode cX6_predictColours 142 = .ok (.iconst 1, 1) := by decide +kernel
theorem dX6_predictColours_143 : decode cX6_predictColours 143 = .ok (.isub, 1) := by decide +kernel
theorem dX6_predictColours_144 : decode cX6_predictColours 144 = .ok (.goto 5, 3) := by decide +kernel
theorem dX6_predictColours_147 : decode cX6_predictColours 147 = .ok (.iload 13, 2) := by decide +kernel
theorem dX6_predictColours_149 : decode cX6_predictColours 149 = .ok (.iload 7, 2) := by decide +kernel
theorem dX6_predictColours_151 : decode cX6_predictColours 151 = .ok (.imul, 1) := by decide +kernel
theorem dX6_predictColours_152 : decode cX6_predictColours 152 = .ok (.istore 16, 2) := by decide +kernel
theorem dX6_predictColours_154 : decode cX6_predictColours 154 = .ok (.iload 13, 2) := by decide +kernel
theorem dX6_predictColours_156 : decode cX6_predictColours 156 = .ok (.iconst (-1), 1) := by decide +kernel
theorem dX6_predictColours_157 : decode cX6_predictColours 157 = .ok (.if_icmp .ge 7, 3) := by decide +kernel
theorem dX6_predictColours_160 : decode cX6_predictColours 160 = .ok (.iconst 0, 1) := by decide +kernel
theorem dX6_predictColours_161 : decode cX6_predictColours 161 = .ok (.goto 23, 3) := by decide +kernel
theorem dX6_predictColours_164 : decode cX6_predictColours 164 = .ok (.iload 13, 2) := by decide +kernel
theorem dX6_predictColours_166 : decode cX6_predictColours 166 = .ok (.iload 8, 2) := by decide +kernel
theorem dX6_predictColours_168 : decode cX6_predictColours 168 = .ok (.iconst 1, 1) := by decide +kernel
theorem dX6_predictColours_169 : decode cX6_predictColours 169 = .ok (.isub, 1) := by decide +kernel
theorem dX6_predictColours_170 : decode cX6_predictColours 170 = .ok (.if_icmp .lt 10, 3) := by decide +kernel
theorem dX6_predictColours_173 : decode cX6_predictColours 173 = .ok (.iload 8, 2) := by decide +kernel
theorem dX6_predictColours_175 : decode cX6_predictColours 175 = .ok (.iconst 1, 1) := by decide +kernel
theorem dX6_predictColours_176 : decode cX6_predictColours 176 = .ok (.isub, 1) := by decide +kernel
theorem dX6_predictColours_177 : decode cX6_predictColours 177 = .ok (.goto 7, 3) := by decide +kernel
theorem dX6_predictColours_180 : decode cX6_predictColours 180 = .ok (.iload 13, 2) := by decide +kernel
theorem dX6_predictColours_182 : decode cX6_predictColours 182 = .ok (.iconst 1, 1) := by decide +kernel
theorem dX6_predictColours_183 : decode cX6_predictColours 183 = .ok (.iadd, 1) := by decide +kernel
theorem dX6_predictColours_184 : decode cX6_predictColours 184 = .ok (.iload 7, 2) := by decide +kernel
theorem dX6_predictColours_186 : decode cX6_predictColours 186 = .ok (.imul, 1) := by decide +kernel
theorem dX6_predictColours_187 : decode cX6_predictColours 187 = .ok (.istore 17, 2) := by decide +kernel
theorem dX6_predictColours_189 : decode cX6_predictColours 189 = .ok (.iconst 1, 1) := by decide +kernel
theorem dX6_predictColours_190 : decode cX6_predictColours 190 = .ok (.istore 18, 2) := by decide +kernel
theorem dX6_predictColours_192 : decode cX6_predictColours 192 = .ok (.iload 18, 2) := by decide +kernel
theorem dX6_predictColours_194 : decode cX6_predictColours 194 = .ok (.iconst 3, 1) := by decide +kernel
theorem dX6_predictColours_195 : decode cX6_predictColours 195 = .ok (.if_icmp .ge 127, 3) := by decide +kernel
theorem dX6_predictColours_198 : decode cX6_predictColours 198 = .ok (.aload_n 1, 1) := by decide +kernel
theorem dX6_predictColours_199 : decode cX6_predictColours 199 = .ok (.getfield 121, 3) := by decide +kernel
theorem dX6_predictColours_202 : decode cX6_predictColours 202 = .ok (.iload 18, 2) := by decide +kernel
theorem dX6_predictColours_204 : decode cX6_predictColours 204 = .ok (.aaload, 1) := by decide +kernel
theorem dX6_predictColours_205 : decode cX6_predictColours 205 = .ok (.astore 19, 2) := by decide +kernel
theorem dX6_predictColours_207 : decode cX6_predictColours 207 = .ok (.bipush 8, 2) := by decide +kernel
theorem dX6_predictColours_209 : decode cX6_predictColours 209 = .ok (.iload 9, 2) := by decide +kernel
theorem dX6_predictColours_211 : decode cX6_predictColours 211 = .ok (.isub, 1) := by decide +kernel
theorem dX6_predictColours_212 : decode cX6_predictColours 212 = .ok (.bipush 8, 2) := by decide +kernel
theorem dX6_predictColours_214 : decode cX6_predictColours 214 = .ok (.iload 10, 2) := by decide +kernel
theorem dX6_predictColours_216 : decode cX6_predictColours 216 = .ok (.isub, 1) := by decide +kernel
theorem dX6_predictColours_217 : decode cX6_predictColours 217 = .ok (.imul, 1) := by decide +kernel
theorem dX6_predictColours_218 : decode cX6_predictColours 218 = .ok (.aload 19, 2) := by decide +kernel
theorem dX6_predictColours_220 : decode cX6_predictColours 220 = .ok (.iload 16, 2) := by decide +kernel
theorem dX6_predictColours_222 : decode cX6_predictColours 222 = .ok (.iload 14, 2) := by decide +kernel
theorem dX6_predictColours_224 : decode cX6_predictColours 224 = .ok (.iadd, 1) := by decide +kernel
theorem dX6_predictColours_225 : decode cX6_predictColours 225 = .ok (.iaload, 1) := by decide +kernel
theorem dX6_predictColours_226 : decode cX6_predictColours 226 = .ok (.imul, 1) := by decide +kernel
theorem dX6_predictColours_227 : decode cX6_predictColours 227 = .ok (.iload 9, 2) := by decide +kernel
theorem dX6_predictColours_229 : decode cX6_predictColours 229 = .ok (.bipush 8, 2) := by decide +kernel
theorem dX6_predictColours_231 : decode cX6_predictColours 231 = .ok (.iload 10, 2) := by decide +kernel
theorem dX6_predictColours_233 : decode cX6_predictColours 233 = .ok (.isub, 1) := by decide +kernel
theorem dX6_predictColours_234 : decode cX6_predictColours 234 = .ok (.imul, 1) := by decide +kernel
theorem dX6_predictColours_235 : decode cX6_predictColours 235 = .ok (.aload 19, 2) := by decide +kernel
theorem dX6_predictColours_237 : decode cX6_predictColours 237 = .ok (.iload 16, 2) := by decide +kernel
theorem dX6_predictColours_239 : decode cX6_predictColours 239 = .ok (.iload 15, 2) := by decide +kernel
theorem dX6_predictColours_241 : decode cX6_predictColours 241 = .ok (.iadd, 1) := by decide +kernel
theorem dX6_predictColours_242 : decode cX6_predictColours 242 = .ok (.iaload, 1) := by decide +kernel
theorem dX6_predictColours_243 : decode cX6_predictColours 243 = .ok (.imul, 1) := by decide +kernel
theorem dX6_predictColours_244 : decode cX6_predictColours 244 = .ok (.iadd, 1) := by decide +kernel
theorem dX6_predictColours_245 : decode cX6_predictColours 245 = .ok (.bipush 8, 2) := by decide +kernel
theorem dX6_predictColours_247 : decode cX6_predictColours 247 = .ok (.iload 9, 2) := by decide +kernel
theorem dX6_predictColours_249 : decode cX6_predictColours 249 = .ok (.isub, 1) := by decide +kernel
theorem dX6_predictColours_250 : decode cX6_predictColours 250 = .ok (.iload 10, 2) := by decide +kernel
theorem dX6_predictColours_252 : decode cX6_predictColours 252 = .ok (.imul, 1) := by decide +kernel
theorem dX6_predictColours_253 : decode cX6_predictColours 253 = .ok (.aload 19, 2) := by decide +kernel
theorem dX6_predictColours_255 : decode cX6_predictColours 255 = .ok (.iload 17, 2) := by decide +kernel
theorem dX6_predictColours_257 : decode cX6_predictColours 257 = .ok (.iload 14, 2) := by decide +kernel
theorem dX6_predictColours_259 : decode cX6_predictColours 259 = .ok (.iadd, 1) := by decide +kernel
theorem dX6_predictColours_260 : decode cX6_predictColours 260 = .ok (.iaload, 1) := by decide +kernel
theorem dX6_predictColours_261 : decode cX6_predictColours 261 = .ok (.imul, 1) := by decide +kernel
theorem dX6_predictColours_262 : decode cX6_predictColours 262 = .ok (.iadd, 1) := by decide +kernel
theorem dX6_predictColours_263 : decode cX6_predictColours 263 = .ok (.iload 9, 2) := by decide +kernel
theorem dX6_predictColours_265 : decode cX6_predictColours 265 = .ok (.iload 10, 2) := by decide +kernel
theorem dX6_predictColours_267 : decode cX6_predictColours 267 = .ok (.imul, 1) := by decide +kernel
theorem dX6_predictColours_268 : decode cX6_predictColours 268 = .ok (.aload 19, 2) := by decide +kernel
theorem dX6_predictColours_270 : decode cX6_predictColours 270 = .ok (.iload 17, 2) := by decide +kernel
theorem dX6_predictColours_272 : decode cX6_predictColours 272 = .ok (.iload 15, 2) := by decide +kernel
theorem dX6_predictColours_274 : decode cX6_predictColours 274 = .ok (.iadd, 1) := by decide +kernel
theorem dX6_predictColours_275 : decode cX6_predictColours 275 = .ok (.iaload, 1) := by decide +kernel
theorem dX6_predictColours_276 : decode cX6_predictColours 276 = .ok (.imul, 1) := by decide +kernel
theorem dX6_predictColours_277 : decode cX6_predictColours 277 = .ok (.iadd, 1) := by decide +kernel
theorem dX6_predictColours_278 : decode cX6_predictColours 278 = .ok (.istore 20, 2) := by decide +kernel
theorem dX6_predictColours_280 : decode cX6_predictColours 280 = .ok (.aload 5, 2) := by decide +kernel
theorem dX6_predictColours_282 : decode cX6_predictColours 282 = .ok (.iload 6, 2) := by decide +kernel
theorem dX6_predictColours_284 : decode cX6_predictColours 284 = .ok (.bipush 64, 2) := by decide +kernel
theorem dX6_predictColours_286 : decode cX6_predictColours 286 = .ok (.iload 18, 2) := by decide +kernel
theorem dX6_predictColours_288 : decode cX6_predictColours 288 = .ok (.iconst 1, 1) := by decide +kernel
theorem dX6_predictColours_289 : decode cX6_predictColours 289 = .ok (.isub, 1) := by decide +kernel
theorem dX6_predictColours_290 : decode cX6_predictColours 290 = .ok (.imul, 1) := by decide +kernel
theorem dX6_predictColours_291 : decode cX6_predictColours 291 = .ok (.iadd, 1) := by decide +kernel
theorem dX6_predictColours_292 : decode cX6_predictColours 292 = .ok (.iload 11, 2) := by decide +kernel
theorem dX6_predictColours_294 : decode cX6_predictColours 294 = .ok (.iload 4, 2) := by decide +kernel
theorem dX6_predictColours_296 : decode cX6_predictColours 296 = .ok (.idiv, 1) := by decide +kernel
theorem dX6_predictColours_297 : decode cX6_predictColours 297 = .ok (.bipush 8, 2) := by decide +kernel
theorem dX6_predictColours_299 : decode cX6_predictColours 299 = .ok (.imul, 1) := by decide +kernel
theorem dX6_predictColours_300 : decode cX6_predictColours 300 = .ok (.iadd, 1) := by decide +kernel
theorem dX6_predictColours_301 : decode cX6_predictColours 301 = .ok (.iload 11, 2) := by decide +kernel
theorem dX6_predictColours_303 : decode cX6_predictColours 303 = .ok (.iload 4, 2) := by decide +kernel
theorem dX6_predictColours_305 : decode cX6_predictColours 305 = .ok (.irem, 1) := by decide +kernel
theorem dX6_predictColours_306 : decode cX6_predictColours 306 = .ok (.iadd, 1) := by decide +kernel
theorem dX6_predictColours_307 : decode cX6_predictColours 307 = .ok (.iload 20, 2) := by decide +kernel
theorem dX6_predictColours_309 : decode cX6_predictColours 309 = .ok (.bipush 32, 2) := by decide +kernel
theorem dX6_predictColours_311 : decode cX6_predictColours 311 = .ok (.iadd, 1) := by decide +kernel
theorem dX6_predictColours_312 : decode cX6_predictColours 312 = .ok (.bipush 6, 2) := by decide +kernel
theorem dX6_predictColours_314 : decode cX6_predictColours 314 = .ok (.ishr, 1) := by decide +kernel
theorem dX6_predictColours_315 : decode cX6_predictColours 315 = .ok (.iastore, 1) := by decide +kernel
theorem dX6_predictColours_316 : decode cX6_predictColours 316 = .ok (.iinc 18 1, 3) := by decide +kernel
theorem dX6_predictColours_319 : decode cX6_predictColours 319 = .ok (.goto (-127), 3) := by decide +kernel
theorem dX6_predictColours_322 : decode cX6_predictColours 322 = .ok (.iinc 11 1, 3) := by decide +kernel
theorem dX6_predictColours_325 : decode cX6_predictColours 325 = .ok (.goto (-292), 3) := by decide +kernel
theorem dX6_predictColours_328 : decode cX6_predictColours 328 = .ok (.return_, 1) := by decide +kernel
def FX6_predictColours (G : GG) (M : DD) (a : Nat) (p0 : Option Nat) (p1 : Int32) (p2 : Int32) (p3 : Int32) (p4 : Option Nat) (p5 : Int32) : Option (DD) :=
  dr G 4 p0 fun b1 =>
  ltt (M.1 b1 1) fun x2 =>
  ltt ((((8 : Int32)) * x2)) fun x3 =>
  ltt (M.1 b1 2) fun x4 =>
  ltt ((((8 : Int32)) * x4)) fun x5 =>
  ltt ((p1 &&& ((7 : Int32)))) fun x6 =>
  ltt ((p2 &&& ((7 : Int32)))) fun x7 =>
  bnd (itr (fun (s9 : Int32 × DD) => ((ltt ((p3 * p3)) fun x12 =>
  if x12 ≤ s9.1 then (some (.inr (s9.1, s9.2))) else
  (ltt ((p1 >>> (((3 : Int32)) &&& 31))) fun x14 =>
  chk (¬ p3 = 0) <|
  ltt (s9.1 - s9.1 / p3 * p3) fun x15 =>
  ltt ((x14 + x15)) fun x16 =>
  ltt ((p2 >>> (((3 : Int32)) &&& 31))) fun x17 =>
  chk (¬ p3 = 0) <|
  ltt (s9.1 / p3) fun x18 =>
  ltt ((x17 + x18)) fun x19 =>
  bnd (if ((0 : Int32)) ≤ x16 then (bnd (if x16 < x3 then (some (x16)) else
  (ltt ((x3 - ((1 : Int32)))) fun x89 =>
  some (x89))) fun (y87 : Int32) =>
  some (y87)) else
  (some ((0 : Int32)))) fun (y20 : Int32) =>
  bnd (if ((-1 : Int32)) ≤ x16 then (ltt ((x3 - ((1 : Int32)))) fun x81 =>
  bnd (if x16 < x81 then (ltt ((x16 + ((1 : Int32)))) fun x84 =>
  some (x84)) else
  (ltt ((x3 - ((1 : Int32)))) fun x85 =>
  some (x85))) fun (y82 : Int32) =>
  some (y82)) else
  (some ((0 : Int32)))) fun (y21 : Int32) =>
  bnd (if ((0 : Int32)) ≤ x19 then (bnd (if x19 < x5 then (some (x19)) else
  (ltt ((x5 - ((1 : Int32)))) fun x79 =>
  some (x79))) fun (y77 : Int32) =>
  some (y77)) else
  (some ((0 : Int32)))) fun (y22 : Int32) =>
  ltt ((y22 * x3)) fun x23 =>
  bnd (if ((-1 : Int32)) ≤ x19 then (ltt ((x5 - ((1 : Int32)))) fun x71 =>
  bnd (if x19 < x71 then (ltt ((x19 + ((1 : Int32)))) fun x74 =>
  some (x74)) else
  (ltt ((x5 - ((1 : Int32)))) fun x75 =>
  some (x75))) fun (y72 : Int32) =>
  some (y72)) else
  (some ((0 : Int32)))) fun (y24 : Int32) =>
  ltt ((y24 * x3)) fun x25 =>
  bnd (itr (fun (s27 : Int32 × DD) => ((if ((3 : Int32)) ≤ s27.1 then (some (.inr (s27.1, s27.2))) else
  (dr G 15 ((s27.2.2 b1 4)) fun b32 =>
  chk (¬ (s27.1 < 0 ∨ G.2.2 b32 ≤ s27.1.toNatClampNeg)) <|
  ltt ((((8 : Int32)) - x6)) fun x33 =>
  ltt ((((8 : Int32)) - x7)) fun x34 =>
  ltt ((x33 * x34)) fun x35 =>
  ltt ((x23 + y20)) fun x36 =>
  dr G 13 ((s27.2.2 b32 s27.1.toNatClampNeg)) fun b37 =>
  chk (¬ (x36 < 0 ∨ G.2.2 b37 ≤ x36.toNatClampNeg)) <|
  ltt (s27.2.1 b37 x36.toNatClampNeg) fun x38 =>
  ltt ((x35 * x38)) fun x39 =>
  ltt ((((8 : Int32)) - x7)) fun x40 =>
  ltt ((x6 * x40)) fun x41 =>
  ltt ((x23 + y21)) fun x42 =>
  chk (¬ (x42 < 0 ∨ G.2.2 b37 ≤ x42.toNatClampNeg)) <|
  ltt (s27.2.1 b37 x42.toNatClampNeg) fun x43 =>
  ltt ((x41 * x43)) fun x44 =>
  ltt ((x39 + x44)) fun x45 =>
  ltt ((((8 : Int32)) - x6)) fun x46 =>
  ltt ((x46 * x7)) fun x47 =>
  ltt ((x25 + y20)) fun x48 =>
  chk (¬ (x48 < 0 ∨ G.2.2 b37 ≤ x48.toNatClampNeg)) <|
  ltt (s27.2.1 b37 x48.toNatClampNeg) fun x49 =>
  ltt ((x47 * x49)) fun x50 =>
  ltt ((x45 + x50)) fun x51 =>
  ltt ((x6 * x7)) fun x52 =>
  ltt ((x25 + y21)) fun x53 =>
  chk (¬ (x53 < 0 ∨ G.2.2 b37 ≤ x53.toNatClampNeg)) <|
  ltt (s27.2.1 b37 x53.toNatClampNeg) fun x54 =>
  ltt ((x52 * x54)) fun x55 =>
  ltt ((x51 + x55)) fun x56 =>
  ltt ((s27.1 - ((1 : Int32)))) fun x57 =>
  ltt ((((64 : Int32)) * x57)) fun x58 =>
  ltt ((p5 + x58)) fun x59 =>
  chk (¬ p3 = 0) <|
  ltt (s9.1 / p3) fun x60 =>
  ltt ((x60 * ((8 : Int32)))) fun x61 =>
  ltt ((x59 + x61)) fun x62 =>
  chk (¬ p3 = 0) <|
  ltt (s9.1 - s9.1 / p3 * p3) fun x63 =>
  ltt ((x62 + x63)) fun x64 =>
  ltt ((x56 + ((32 : Int32)))) fun x65 =>
  ltt ((x65 >>> (((6 : Int32)) &&& 31))) fun x66 =>
  dr G 13 p4 fun b67 =>
  chk (¬ (x64 < 0 ∨ G.2.2 b67 ≤ x64.toNatClampNeg)) <|
  ltt (uI s27.2 b67 x64.toNatClampNeg x66) fun M68 =>
  ltt (s27.1 + (1 : Int32)) fun x69 =>
  some (.inl (x69, M68)))) : Option ((Int32 × DD) ⊕ (Int32 × DD)))) 1000000 ((1 : Int32), s9.2)) fun (y26 : Int32 × DD) =>
  ltt (s9.1 + (1 : Int32)) fun x29 =>
  some (.inl (x29, y26.2)))) : Option ((Int32 × DD) ⊕ (Int32 × DD)))) 1000000 ((0 : Int32), M)) fun (y8 : Int32 × DD) =>
  some y8.2
set_option maxHeartbeats 4000000 in
set_option maxRecDepth 100000 in
theorem kX6_predictColours (l : Launch) (D : va_G) (ct : CT) (ad : Nat → Nat) (Z : Nat → Nat) (G : GG) (M : DD) (sz : Nat) (a : Nat) (p0 : Option Nat) (p1 : Int32) (p2 : Int32) (p3 : Int32) (p4 : Option Nat) (p5 : Int32) (y : DD) (hc : a < G.1) (hk : G.2.1 a = 6) (hF : FX6_predictColours G M a p0 p1 p2 p3 p4 p5 = some y) : Met l yX6_predictColours wuX6_predictColours ({ frames := 0, cells := 0, slots := 0, locals := 0 }) (va_Pc [.ref (ad a), va_re ad p0, .int p1, .int p2, .int p3, va_re ad p4, .int p5] (kB D ct ad Z G M sz)) (va_Qv (fun (_ : Unit) => True) (fun _ t => kE D ct ad G (wA ad G sz) y t) (wA ad G sz)) 0 0 (wA ad G sz) := by
  refine Met.ofW (cc := cX6_predictColours) (maxL := 21) (ret := none) (by decide) rfl ?_
  intro p e s m args below meth c s₁ B hml hv
  obtain ⟨rfl, hsz, hP, hK, hD0, hZ, hN⟩ := hv
  have hx := B.exec
  have hb := B.bytes
  have hr := B.returns
  have hts := atoms_spec (ws := wuX6_predictColours) B.pre
  have hown : s.vm.findClass RX6 = some m.cls := findClass_of_methodNamed B.named
  have hlocks := B.notSynchronized
  subst hsz
  have hD := wD_self (sz := s.heap.size) hD0
  have hA9 : ∀ q, s.heap.size ≤ q → wA ad G s.heap.size q := fun q h => Or.inr h
  generalize hAe : wA ad G s.heap.size = A at hD hA9 hZ ⊢
  have hS : va_S A s.heap s.heap [] := va_S.rf
  have hl := lv_entry ([.ref (ad a), va_re ad p0, .int p1, .int p2, .int p3, va_re ad p4, .int p5]) (n := 21) (by cases p0 <;> cases p4 <;> exact Nat.le_of_ble_eq_true rfl)
  rw [lg_entry_eq]
  generalize (lg_sl ([.ref (ad a), va_re ad p0, .int p1, .int p2, .int p3, va_re ad p4, .int p5]) ++ List.replicate (21 - (lg_sl ([.ref (ad a), va_re ad p0, .int p1, .int p2, .int p3, va_re ad p4, .int p5])).length) Slot.unset).toArray = ls at hl ⊢
  have hl : lv_has ls 21 [(0, .ref (ad a)), (1, va_re ad p0), (2, .int p1), (3, .int p2), (4, .int p3), (5, va_re ad p4), (6, .int p5)] := by have e9 : lv_args 0 [.ref (ad a), va_re ad p0, .int p1, .int p2, .int p3, va_re ad p4, .int p5] = [(0, .ref (ad a)), (1, va_re ad p0), (2, .int p1), (3, .int p2), (4, .int p3), (5, va_re ad p4), (6, .int p5)] := (by cases p0 <;> cases p4 <;> rfl); rw [e9] at hl; exact hl
  unfold FX6_predictColours at hF
  refine lv_bipush (v := (8 : Int32)) hx hb dX6_predictColours_0 (by decide) ?_
  refine lv_aloadq_n hx hb dX6_predictColours_2 rfl (lv_at hl 1 rfl) ?_
  obtain ⟨b1, ho1, hc1, hk1, hF⟩ := dr_some hF
  refine W_st (st' := [.ref (ad b1), .int (8 : Int32)]) (by rw [va_some ho1]) ?_
  refine va_get (D := D) (ci := 4) (v := .int (M.1 b1 1)) (C := RX4) (T := TX4) (N := 18) hx hb hts (mus hf_X4) hown hK hP b1 (wld_o ct ad G M hc1 hk1 (by decide)) rfl 1 (by decide) (hts (.fieldLink RX6 83 "VideoSuite$Picture" "width" "I") (mu mw_1422)) (fun _ h9 => h9) rfl dX6_predictColours_3 ?_
  obtain ⟨x2, ex2, hF⟩ := ltt_some hF
  refine lv_topi (fun zx2 ezx2 => ?_)
  obtain rfl : x2 = zx2 := ex2.trans ezx2.symm
  refine lv_imul hx hb dX6_predictColours_6 ?_
  obtain ⟨x3, ex3, hF⟩ := ltt_some hF
  refine lv_topi (fun zx3 ezx3 => ?_)
  obtain rfl : x3 = zx3 := ex3.trans ezx3.symm
  refine lv_istore (lv' := [(7, .int x3), (0, .ref (ad a)), (1, va_re ad p0), (2, .int p1), (3, .int p2), (4, .int p3), (5, va_re ad p4), (6, .int p5)]) hx hb dX6_predictColours_7 hl (by decide) rfl (fun ls hl => ?_)
  refine lv_bipush (v := (8 : Int32)) hx hb dX6_predictColours_9 (by decide) ?_
  refine lv_aloadq_n hx hb dX6_predictColours_11 rfl (lv_at hl 2 rfl) ?_
  refine W_st (st' := [.ref (ad b1), .int (8 : Int32)]) (by rw [va_some ho1]) ?_
  refine va_get (D := D) (ci := 4) (v := .int (M.1 b1 2)) (C := RX4) (T := TX4) (N := 18) hx hb hts (mus hf_X4) hown hK hP b1 (wld_o ct ad G M hc1 hk1 (by decide)) rfl 2 (by decide) (hts (.fieldLink RX6 125 "VideoSuite$Picture" "height" "I") (mu mw_1426)) (fun _ h9 => h9) rfl dX6_predictColours_12 ?_
  obtain ⟨x4, ex4, hF⟩ := ltt_some hF
  refine lv_topi (fun zx4 ezx4 => ?_)
  obtain rfl : x4 = zx4 := ex4.trans ezx4.symm
  refine lv_imul hx hb dX6_predictColours_15 ?_
  obtain ⟨x5, ex5, hF⟩ := ltt_some hF
  refine lv_topi (fun zx5 ezx5 => ?_)
  obtain rfl : x5 = zx5 := ex5.trans ezx5.symm
  refine lv_istore (lv' := [(8, .int x5), (7, .int x3), (0, .ref (ad a)), (1, va_re ad p0), (2, .int p1), (3, .int p2), (4, .int p3), (5, va_re ad p4), (6, .int p5)]) hx hb dX6_predictColours_16 hl (by decide) rfl (fun ls hl => ?_)
  refine lv_iload_n hx hb dX6_predictColours_18 rfl (lv_at hl 4 rfl) ?_
  refine lv_bipush (v := (7 : Int32)) hx hb dX6_predictColours_19 (by decide) ?_
  refine lv_iand hx hb dX6_predictColours_21 ?_
  obtain ⟨x6, ex6, hF⟩ := ltt_some hF
  refine lv_topi (fun zx6 ezx6 => ?_)
  obtain rfl : x6 = zx6 := ex6.trans ezx6.symm
  refine lv_istore (lv' := [(9, .int x6), (8, .int x5), (7, .int x3), (0, .ref (ad a)), (1, va_re ad p0), (2, .int p1), (3, .int p2), (4, .int p3), (5, va_re ad p4), (6, .int p5)]) hx hb dX6_predictColours_22 hl (by decide) rfl (fun ls hl => ?_)
  refine lv_iload_n hx hb dX6_predictColours_24 rfl (lv_at hl 6 rfl) ?_
  refine lv_bipush (v := (7 : Int32)) hx hb dX6_predictColours_25 (by decide) ?_
  refine lv_iand hx hb dX6_predictColours_27 ?_
  obtain ⟨x7, ex7, hF⟩ := ltt_some hF
  refine lv_topi (fun zx7 ezx7 => ?_)
  obtain rfl : x7 = zx7 := ex7.trans ezx7.symm
  refine lv_istore (lv' := [(10, .int x7), (9, .int x6), (8, .int x5), (7, .int x3), (0, .ref (ad a)), (1, va_re ad p0), (2, .int p1), (3, .int p2), (4, .int p3), (5, va_re ad p4), (6, .int p5)]) hx hb dX6_predictColours_28 hl (by decide) rfl (fun ls hl => ?_)
  refine lv_iconst (v := (0 : Int32)) hx hb dX6_predictColours_30 (by decide) ?_
  refine lv_istore (lv' := [(11, .int (0 : Int32)), (10, .int x7), (9, .int x6), (8, .int x5), (7, .int x3), (0, .ref (ad a)), (1, va_re ad p0), (2, .int p1), (3, .int p2), (4, .int p3), (5, va_re ad p4), (6, .int p5)]) hx hb dX6_predictColours_31 hl (by decide) rfl (fun ls hl => ?_)
  obtain ⟨y8, hy8, hF⟩ := bnd_some hF
  have K8 : ∀ (H : Heap) (locs : List Loc) (ls : Array Slot), va_P D classes (wld ct ad G y8.2) H → va_D A (wld ct ad G y8.2) → va_S A s.heap H locs → lv_has ls 21 [(11, .int y8.1), (10, .int x7), (9, .int x6), (8, .int x5), (7, .int x3), (0, .ref (ad a)), (1, va_re ad p0), (2, .int p1), (3, .int p2), (4, .int p3), (5, va_re ad p4), (6, .int p5)] → W p l e (headSpec wuX6_predictColours ({ frames := 0, cells := 0, slots := 0, locals := 0 })).room s m ([.ref (ad a), va_re ad p0, .int p1, .int p2, .int p3, va_re ad p4, .int p5] : List Value).toArray below meth c H locs 0 0 (MQ below (va_Qv (fun (_ : Unit) => True) (fun _ t => kE D ct ad G A y t) A) ([.ref (ad a), va_re ad p0, .int p1, .int p2, .int p3, va_re ad p4, .int p5] : List Value).toArray s 0 0 A) (F0 m 328 ls []) := by
    intro H locs ls hP hD hS hl
    obtain rfl := Option.some.inj hF
    exact W.vret hx hb hr (fun t ht hW => ⟨⟨(), rfl, trivial, ⟨by rw [ht]; exact hP, va_K.moved hW.alike hK, hD⟩⟩, hS.F ht⟩) hS.2.2 dX6_predictColours_328
  clear hF
  refine itr_rule (fun (s9 : Int32 × DD) => ∀ (H : Heap) (locs : List Loc) (ls : Array Slot), va_P D classes (wld ct ad G s9.2) H → va_D A (wld ct ad G s9.2) → va_S A s.heap H locs → lv_has ls 21 [(11, .int s9.1), (10, .int x7), (9, .int x6), (8, .int x5), (7, .int x3), (0, .ref (ad a)), (1, va_re ad p0), (2, .int p1), (3, .int p2), (4, .int p3), (5, va_re ad p4), (6, .int p5)] → W p l e (headSpec wuX6_predictColours ({ frames := 0, cells := 0, slots := 0, locals := 0 })).room s m ([.ref (ad a), va_re ad p0, .int p1, .int p2, .int p3, va_re ad p4, .int p5] : List Value).toArray below meth c H locs 0 0 (MQ below (va_Qv (fun (_ : Unit) => True) (fun _ t => kE D ct ad G A y t) A) ([.ref (ad a), va_re ad p0, .int p1, .int p2, .int p3, va_re ad p4, .int p5] : List Value).toArray s 0 0 A) (F0 m 33 ls [])) ?_ _ _ hy8 _ _ _ hP hD hS (lv_sub hl [0, 1, 2, 3, 4, 5, 6, 7, 8, 9, 10, 11] rfl)
  rintro s9 ⟨z11, hF, hwz11⟩ H locs ls hP hD hS hl
  try dsimp only at hF
  refine lv_iload hx hb dX6_predictColours_33 (lv_at hl 0 rfl) ?_
  refine lv_iload hx hb dX6_predictColours_35 (lv_at hl 9 rfl) ?_
  refine lv_iload hx hb dX6_predictColours_37 (lv_at hl 9 rfl) ?_
  refine lv_imul hx hb dX6_predictColours_39 ?_
  obtain ⟨x12, ex12, hF⟩ := ltt_some hF
  refine lv_topi (fun zx12 ezx12 => ?_)
  obtain rfl : x12 = zx12 := ex12.trans ezx12.symm
  refine lv_icmp_ge (tgt := 328) hx hb dX6_predictColours_40 (by decide) (fun c13 => ?_) (fun c13 => ?_)
  · rw [if_pos c13] at hF
    obtain rfl := Option.some.inj hF
    subst hwz11
    exact K8 _ _ _ hP hD hS (lv_sub hl [0, 1, 2, 3, 4, 5, 6, 7, 8, 9, 10, 11] rfl)
  · rw [if_neg c13] at hF
    refine lv_iload_n hx hb dX6_predictColours_43 rfl (lv_at hl 7 rfl) ?_
    refine lv_iconst (v := (3 : Int32)) hx hb dX6_predictColours_44 (by decide) ?_
    refine lv_ishr hx hb dX6_predictColours_45 ?_
    obtain ⟨x14, ex14, hF⟩ := ltt_some hF
    refine lv_topi (fun zx14 ezx14 => ?_)
    obtain rfl : x14 = zx14 := ex14.trans ezx14.symm
    refine lv_iload hx hb dX6_predictColours_46 (lv_at hl 0 rfl) ?_
    refine lv_iload hx hb dX6_predictColours_48 (lv_at hl 9 rfl) ?_
    obtain ⟨hne, hF⟩ := chk_some hF
    refine lv_irem hx hb dX6_predictColours_50 hne ?_
    obtain ⟨x15, ex15, hF⟩ := ltt_some hF
    refine lv_topi (fun zx15 ezx15 => ?_)
    obtain rfl : x15 = zx15 := ex15.trans ezx15.symm
    refine lv_iadd hx hb dX6_predictColours_51 ?_
    obtain ⟨x16, ex16, hF⟩ := ltt_some hF
    refine lv_topi (fun zx16 ezx16 => ?_)
    obtain rfl : x16 = zx16 := ex16.trans ezx16.symm
    refine lv_istore (lv' := [(12, .int x16), (11, .int s9.1), (10, .int x7), (9, .int x6), (8, .int x5), (7, .int x3), (0, .ref (ad a)), (1, va_re ad p0), (2, .int p1), (3, .int p2), (4, .int p3), (5, va_re ad p4), (6, .int p5)]) hx hb dX6_predictColours_52 hl (by decide) rfl (fun ls hl => ?_)
    refine lv_iload_n hx hb dX6_predictColours_54 rfl (lv_at hl 9 rfl) ?_
    refine lv_iconst (v := (3 : Int32)) hx hb dX6_predictColours_55 (by decide) ?_
    refine lv_ishr hx hb dX6_predictColours_56 ?_
    obtain ⟨x17, ex17, hF⟩ := ltt_some hF
    refine lv_topi (fun zx17 ezx17 => ?_)
    obtain rfl : x17 = zx17 := ex17.trans ezx17.symm
    refine lv_iload hx hb dX6_predictColours_57 (lv_at hl 1 rfl) ?_
    refine lv_iload hx hb dX6_predictColours_59 (lv_at hl 10 rfl) ?_
    obtain ⟨hne, hF⟩ := chk_some hF
    refine lv_idiv hx hb dX6_predictColours_61 hne ?_
    obtain ⟨x18, ex18, hF⟩ := ltt_some hF
    refine lv_topi (fun zx18 ezx18 => ?_)
    obtain rfl : x18 = zx18 := ex18.trans ezx18.symm
    refine lv_iadd hx hb dX6_predictColours_62 ?_
    obtain ⟨x19, ex19, hF⟩ := ltt_some hF
    refine lv_topi (fun zx19 ezx19 => ?_)
    obtain rfl : x19 = zx19 := ex19.trans ezx19.symm
    refine lv_istore (lv' := [(13, .int x19), (12, .int x16), (11, .int s9.1), (10, .int x7), (9, .int x6), (8, .int x5), (7, .int x3), (0, .ref (ad a)), (1, va_re ad p0), (2, .int p1), (3, .int p2), (4, .int p3), (5, va_re ad p4), (6, .int p5)]) hx hb dX6_predictColours_63 hl (by decide) rfl (fun ls hl => ?_)
    refine lv_iload hx hb dX6_predictColours_65 (lv_at hl 1 rfl) ?_
    obtain ⟨y20, hy20, hF⟩ := bnd_some hF
    have J20 : ∀ (H : Heap) (locs : List Loc) (ls : Array Slot), va_P D classes (wld ct ad G s9.2) H → va_D A (wld ct ad G s9.2) → va_S A s.heap H locs → lv_has ls 21 [(13, .int x19), (12, .int x16), (11, .int s9.1), (10, .int x7), (9, .int x6), (8, .int x5), (7, .int x3), (0, .ref (ad a)), (1, va_re ad p0), (2, .int p1), (3, .int p2), (4, .int p3), (5, va_re ad p4), (6, .int p5)] → W p l e (headSpec wuX6_predictColours ({ frames := 0, cells := 0, slots := 0, locals := 0 })).room s m ([.ref (ad a), va_re ad p0, .int p1, .int p2, .int p3, va_re ad p4, .int p5] : List Value).toArray below meth c H locs 0 0 (MQ below (va_Qv (fun (_ : Unit) => True) (fun _ t => kE D ct ad G A y t) A) ([.ref (ad a), va_re ad p0, .int p1, .int p2, .int p3, va_re ad p4, .int p5] : List Value).toArray s 0 0 A) (F0 m 90 ls [.int y20]) := by
      intro H locs ls hP hD hS hl
      refine lv_istore (lv' := [(14, .int y20), (13, .int x19), (12, .int x16), (11, .int s9.1), (10, .int x7), (9, .int x6), (8, .int x5), (7, .int x3), (0, .ref (ad a)), (1, va_re ad p0), (2, .int p1), (3, .int p2), (4, .int p3), (5, va_re ad p4), (6, .int p5)]) hx hb dX6_predictColours_90 hl (by decide) rfl (fun ls hl => ?_)
      refine lv_iload hx hb dX6_predictColours_92 (lv_at hl 2 rfl) ?_
      refine lv_iconst (v := (-1 : Int32)) hx hb dX6_predictColours_94 (by decide) ?_
      obtain ⟨y21, hy21, hF⟩ := bnd_some hF
      have J21 : ∀ (H : Heap) (locs : List Loc) (ls : Array Slot), va_P D classes (wld ct ad G s9.2) H → va_D A (wld ct ad G s9.2) → va_S A s.heap H locs → lv_has ls 21 [(14, .int y20), (13, .int x19), (12, .int x16), (11, .int s9.1), (10, .int x7), (9, .int x6), (8, .int x5), (7, .int x3), (0, .ref (ad a)), (1, va_re ad p0), (2, .int p1), (3, .int p2), (4, .int p3), (5, va_re ad p4), (6, .int p5)] → W p l e (headSpec wuX6_predictColours ({ frames := 0, cells := 0, slots := 0, locals := 0 })).room s m ([.ref (ad a), va_re ad p0, .int p1, .int p2, .int p3, va_re ad p4, .int p5] : List Value).toArray below meth c H locs 0 0 (MQ below (va_Qv (fun (_ : Unit) => True) (fun _ t => kE D ct ad G A y t) A) ([.ref (ad a), va_re ad p0, .int p1, .int p2, .int p3, va_re ad p4, .int p5] : List Value).toArray s 0 0 A) (F0 m 122 ls [.int y21]) := by
        intro H locs ls hP hD hS hl
        refine lv_istore (lv' := [(15, .int y21), (14, .int y20), (13, .int x19), (12, .int x16), (11, .int s9.1), (10, .int x7), (9, .int x6), (8, .int x5), (7, .int x3), (0, .ref (ad a)), (1, va_re ad p0), (2, .int p1), (3, .int p2), (4, .int p3), (5, va_re ad p4), (6, .int p5)]) hx hb dX6_predictColours_122 hl (by decide) rfl (fun ls hl => ?_)
        refine lv_iload hx hb dX6_predictColours_124 (lv_at hl 2 rfl) ?_
        obtain ⟨y22, hy22, hF⟩ := bnd_some hF
        have J22 : ∀ (H : Heap) (locs : List Loc) (ls : Array Slot), va_P D classes (wld ct ad G s9.2) H → va_D A (wld ct ad G s9.2) → va_S A s.heap H locs → lv_has ls 21 [(15, .int y21), (14, .int y20), (13, .int x19), (12, .int x16), (11, .int s9.1), (10, .int x7), (9, .int x6), (8, .int x5), (7, .int x3), (0, .ref (ad a)), (1, va_re ad p0), (2, .int p1), (3, .int p2), (4, .int p3), (5, va_re ad p4), (6, .int p5)] → W p l e (headSpec wuX6_predictColours ({ frames := 0, cells := 0, slots := 0, locals := 0 })).room s m ([.ref (ad a), va_re ad p0, .int p1, .int p2, .int p3, va_re ad p4, .int p5] : List Value).toArray below meth c H locs 0 0 (MQ below (va_Qv (fun (_ : Unit) => True) (fun _ t => kE D ct ad G A y t) A) ([.ref (ad a), va_re ad p0, .int p1, .int p2, .int p3, va_re ad p4, .int p5] : List Value).toArray s 0 0 A) (F0 m 149 ls [.int y22]) := by
          intro H locs ls hP hD hS hl
          refine lv_iload hx hb dX6_predictColours_149 (lv_at hl 8 rfl) ?_
          refine lv_imul hx hb dX6_predictColours_151 ?_
          obtain ⟨x23, ex23, hF⟩ := ltt_some hF
          refine lv_topi (fun zx23 ezx23 => ?_)
          obtain rfl : x23 = zx23 := ex23.trans ezx23.symm
          refine lv_istore (lv' := [(16, .int x23), (15, .int y21), (14, .int y20), (13, .int x19), (12, .int x16), (11, .int s9.1), (10, .int x7), (9, .int x6), (8, .int x5), (7, .int x3), (0, .ref (ad a)), (1, va_re ad p0), (2, .int p1), (3, .int p2), (4, .int p3), (5, va_re ad p4), (6, .int p5)]) hx hb dX6_predictColours_152 hl (by decide) rfl (fun ls hl => ?_)
          refine lv_iload hx hb dX6_predictColours_154 (lv_at hl 3 rfl) ?_
          refine lv_iconst (v := (-1 : Int32)) hx hb dX6_predictColours_156 (by decide) ?_
          obtain ⟨y24, hy24, hF⟩ := bnd_some hF
          have J24 : ∀ (H : Heap) (locs : List Loc) (ls : Array Slot), va_P D classes (wld ct ad G s9.2) H → va_D A (wld ct ad G s9.2) → va_S A s.heap H locs → lv_has ls 21 [(16, .int x23), (15, .int y21), (14, .int y20), (13, .int x19), (12, .int x16), (11, .int s9.1), (10, .int x7), (9, .int x6), (8, .int x5), (7, .int x3), (0, .ref (ad a)), (1, va_re ad p0), (2, .int p1), (3, .int p2), (4, .int p3), (5, va_re ad p4), (6, .int p5)] → W p l e (headSpec wuX6_predictColours ({ frames := 0, cells := 0, slots := 0, locals := 0 })).room s m ([.ref (ad a), va_re ad p0, .int p1, .int p2, .int p3, va_re ad p4, .int p5] : List Value).toArray below meth c H locs 0 0 (MQ below (va_Qv (fun (_ : Unit) => True) (fun _ t => kE D ct ad G A y t) A) ([.ref (ad a), va_re ad p0, .int p1, .int p2, .int p3, va_re ad p4, .int p5] : List Value).toArray s 0 0 A) (F0 m 184 ls [.int y24]) := by
            intro H locs ls hP hD hS hl
            refine lv_iload hx hb dX6_predictColours_184 (lv_at hl 9 rfl) ?_
            refine lv_imul hx hb dX6_predictColours_186 ?_
            obtain ⟨x25, ex25, hF⟩ := ltt_some hF
            refine lv_topi (fun zx25 ezx25 => ?_)
            obtain rfl : x25 = zx25 := ex25.trans ezx25.symm
            refine lv_istore (lv' := [(17, .int x25), (16, .int x23), (15, .int y21), (14, .int y20), (13, .int x19), (12, .int x16), (11, .int s9.1), (10, .int x7), (9, .int x6), (8, .int x5), (7, .int x3), (0, .ref (ad a)), (1, va_re ad p0), (2, .int p1), (3, .int p2), (4, .int p3), (5, va_re ad p4), (6, .int p5)]) hx hb dX6_predictColours_187 hl (by decide) rfl (fun ls hl => ?_)
            refine lv_iconst (v := (1 : Int32)) hx hb dX6_predictColours_189 (by decide) ?_
            refine lv_istore (lv' := [(18, .int (1 : Int32)), (17, .int x25), (16, .int x23), (15, .int y21), (14, .int y20), (13, .int x19), (12, .int x16), (11, .int s9.1), (10, .int x7), (9, .int x6), (8, .int x5), (7, .int x3), (0, .ref (ad a)), (1, va_re ad p0), (2, .int p1), (3, .int p2), (4, .int p3), (5, va_re ad p4), (6, .int p5)]) hx hb dX6_predictColours_190 hl (by decide) rfl (fun ls hl => ?_)
            obtain ⟨y26, hy26, hF⟩ := bnd_some hF
            have K26 : ∀ (H : Heap) (locs : List Loc) (ls : Array Slot), va_P D classes (wld ct ad G y26.2) H → va_D A (wld ct ad G y26.2) → va_S A s.heap H locs → lv_has ls 21 [(18, .int y26.1), (17, .int x25), (16, .int x23), (15, .int y21), (14, .int y20), (13, .int x19), (12, .int x16), (11, .int s9.1), (10, .int x7), (9, .int x6), (8, .int x5), (7, .int x3), (0, .ref (ad a)), (1, va_re ad p0), (2, .int p1), (3, .int p2), (4, .int p3), (5, va_re ad p4), (6, .int p5)] → W p l e (headSpec wuX6_predictColours ({ frames := 0, cells := 0, slots := 0, locals := 0 })).room s m ([.ref (ad a), va_re ad p0, .int p1, .int p2, .int p3, va_re ad p4, .int p5] : List Value).toArray below meth c H locs 0 0 (MQ below (va_Qv (fun (_ : Unit) => True) (fun _ t => kE D ct ad G A y t) A) ([.ref (ad a), va_re ad p0, .int p1, .int p2, .int p3, va_re ad p4, .int p5] : List Value).toArray s 0 0 A) (F0 m 322 ls []) := by
              intro H locs ls hP hD hS hl
              obtain ⟨x29, ex29, hF⟩ := ltt_some hF
              refine lv_iinc (v := x29) (lv' := [(11, .int x29), (18, .int y26.1), (17, .int x25), (16, .int x23), (15, .int y21), (14, .int y20), (13, .int x19), (12, .int x16), (10, .int x7), (9, .int x6), (8, .int x5), (7, .int x3), (0, .ref (ad a)), (1, va_re ad p0), (2, .int p1), (3, .int p2), (4, .int p3), (5, va_re ad p4), (6, .int p5)]) hx hb dX6_predictColours_322 hl (k := 7) rfl (by rw [ex29]; rfl) (by decide) rfl (fun ls hl => ?_)
              refine lv_goto (tgt := 33) hx hb dX6_predictColours_325 (by decide) ?_
              obtain rfl := Option.some.inj hF
              exact hwz11 _ _ _ hP hD hS (lv_sub hl [0, 8, 9, 10, 11, 12, 13, 14, 15, 16, 17, 18] rfl)
            clear hF
            refine itr_rule (fun (s27 : Int32 × DD) => ∀ (H : Heap) (locs : List Loc) (ls : Array Slot), va_P D classes (wld ct ad G s27.2) H → va_D A (wld ct ad G s27.2) → va_S A s.heap H locs → lv_has ls 21 [(18, .int s27.1), (17, .int x25), (16, .int x23), (15, .int y21), (14, .int y20), (13, .int x19), (12, .int x16), (11, .int s9.1), (10, .int x7), (9, .int x6), (8, .int x5), (7, .int x3), (0, .ref (ad a)), (1, va_re ad p0), (2, .int p1), (3, .int p2), (4, .int p3), (5, va_re ad p4), (6, .int p5)] → W p l e (headSpec wuX6_predictColours ({ frames := 0, cells := 0, slots := 0, locals := 0 })).room s m ([.ref (ad a), va_re ad p0, .int p1, .int p2, .int p3, va_re ad p4, .int p5] : List Value).toArray below meth c H locs 0 0 (MQ below (va_Qv (fun (_ : Unit) => True) (fun _ t => kE D ct ad G A y t) A) ([.ref (ad a), va_re ad p0, .int p1, .int p2, .int p3, va_re ad p4, .int p5] : List Value).toArray s 0 0 A) (F0 m 192 ls [])) ?_ _ _ hy26 _ _ _ hP hD hS (lv_sub hl [0, 1, 2, 3, 4, 5, 6, 7, 8, 9, 10, 11, 12, 13, 14, 15, 16, 17, 18] rfl)
            rintro s27 ⟨z30, hF, hwz30⟩ H locs ls hP hD hS hl
            try dsimp only at hF
            refine lv_iload hx hb dX6_predictColours_192 (lv_at hl 0 rfl) ?_
            refine lv_iconst (v := (3 : Int32)) hx hb dX6_predictColours_194 (by decide) ?_
            refine lv_icmp_ge (tgt := 322) hx hb dX6_predictColours_195 (by decide) (fun c31 => ?_) (fun c31 => ?_)
            · rw [if_pos c31] at hF
              obtain rfl := Option.some.inj hF
              subst hwz30
              exact K26 _ _ _ hP hD hS (lv_sub hl [0, 1, 2, 3, 4, 5, 6, 7, 8, 9, 10, 11, 12, 13, 14, 15, 16, 17, 18] rfl)
            · rw [if_neg c31] at hF
              refine lv_aloadq_n hx hb dX6_predictColours_198 rfl (lv_at hl 13 rfl) ?_
              refine W_st (st' := [.ref (ad b1)]) (by rw [va_some ho1]) ?_
              refine va_get (D := D) (ci := 4) (v := va_re ad (s27.2.2 b1 4)) (C := RX4) (T := TX4) (N := 18) hx hb hts (mus hf_X4) hown hK hP b1 (wld_o ct ad G s27.2 hc1 hk1 (by decide)) rfl 4 (by decide) (hts (.fieldLink RX6 121 "VideoSuite$Picture" "plane" "[[I") (mu mw_1433)) (fun _ h9 => h9) rfl dX6_predictColours_199 ?_
              refine lv_iload hx hb dX6_predictColours_202 (lv_at hl 0 rfl) ?_
              obtain ⟨b32, ho32, hc32, hk32, hF⟩ := dr_some hF
              refine W_st (st' := [.int s27.1, .ref (ad b32)]) (by rw [va_some ho32]) ?_
              obtain ⟨hvc, hF⟩ := chk_some hF
              refine ld_g hx hb hK hP hc32 hk32 hvc dX6_predictColours_204 ?_
              refine lv_astoreq (lv' := [(19, va_re ad (s27.2.2 b32 s27.1.toNatClampNeg)), (18, .int s27.1), (17, .int x25), (16, .int x23), (15, .int y21), (14, .int y20), (13, .int x19), (12, .int x16), (11, .int s9.1), (10, .int x7), (9, .int x6), (8, .int x5), (7, .int x3), (0, .ref (ad a)), (1, va_re ad p0), (2, .int p1), (3, .int p2), (4, .int p3), (5, va_re ad p4), (6, .int p5)]) hx hb dX6_predictColours_205 hl (by decide) rfl (fun ls hl => ?_)
              refine lv_bipush (v := (8 : Int32)) hx hb dX6_predictColours_207 (by decide) ?_
              refine lv_iload hx hb dX6_predictColours_209 (lv_at hl 10 rfl) ?_
              refine lv_isub hx hb dX6_predictColours_211 ?_
              obtain ⟨x33, ex33, hF⟩ := ltt_some hF
              refine lv_topi (fun zx33 ezx33 => ?_)
              obtain rfl : x33 = zx33 := ex33.trans ezx33.symm
              refine lv_bipush (v := (8 : Int32)) hx hb dX6_predictColours_212 (by decide) ?_
              refine lv_iload hx hb dX6_predictColours_214 (lv_at hl 9 rfl) ?_
              refine lv_isub hx hb dX6_predictColours_216 ?_
              obtain ⟨x34, ex34, hF⟩ := ltt_some hF
              refine lv_topi (fun zx34 ezx34 => ?_)
              obtain rfl : x34 = zx34 := ex34.trans ezx34.symm
              refine lv_imul hx hb dX6_predictColours_217 ?_
              obtain ⟨x35, ex35, hF⟩ := ltt_some hF
              refine lv_topi (fun zx35 ezx35 => ?_)
              obtain rfl : x35 = zx35 := ex35.trans ezx35.symm
              refine lv_aloadq hx hb dX6_predictColours_218 (lv_at hl 0 rfl) ?_
              refine lv_iload hx hb dX6_predictColours_220 (lv_at hl 3 rfl) ?_
              refine lv_iload hx hb dX6_predictColours_222 (lv_at hl 5 rfl) ?_
              refine lv_iadd hx hb dX6_predictColours_224 ?_
              obtain ⟨x36, ex36, hF⟩ := ltt_some hF
              refine lv_topi (fun zx36 ezx36 => ?_)
              obtain rfl : x36 = zx36 := ex36.trans ezx36.symm
              obtain ⟨b37, ho37, hc37, hk37, hF⟩ := dr_some hF
              refine W_st (st' := [.int x36, .ref (ad b37), .int x35]) (by rw [va_some ho37]) ?_
              obtain ⟨hvc, hF⟩ := chk_some hF
              refine va_iald hx hb hK hP b37 1 (wld_i ct ad G s27.2 hc37 hk37) rfl hvc dX6_predictColours_225 ?_
              obtain ⟨x38, ex38, hF⟩ := ltt_some hF
              refine lv_topi (fun zx38 ezx38 => ?_)
              obtain rfl : x38 = zx38 := ex38.trans ezx38.symm
              refine lv_imul hx hb dX6_predictColours_226 ?_
              obtain ⟨x39, ex39, hF⟩ := ltt_some hF
              refine lv_topi (fun zx39 ezx39 => ?_)
              obtain rfl : x39 = zx39 := ex39.trans ezx39.symm
              refine lv_iload hx hb dX6_predictColours_227 (lv_at hl 10 rfl) ?_
              refine lv_bipush (v := (8 : Int32)) hx hb dX6_predictColours_229 (by decide) ?_
              refine lv_iload hx hb dX6_predictColours_231 (lv_at hl 9 rfl) ?_
              refine lv_isub hx hb dX6_predictColours_233 ?_
              obtain ⟨x40, ex40, hF⟩ := ltt_some hF
              refine lv_topi (fun zx40 ezx40 => ?_)
              obtain rfl : x40 = zx40 := ex40.trans ezx40.symm
              refine lv_imul hx hb dX6_predictColours_234 ?_
              obtain ⟨x41, ex41, hF⟩ := ltt_some hF
              refine lv_topi (fun zx41 ezx41 => ?_)
              obtain rfl : x41 = zx41 := ex41.trans ezx41.symm
              refine lv_aloadq hx hb dX6_predictColours_235 (lv_at hl 0 rfl) ?_
              refine lv_iload hx hb dX6_predictColours_237 (lv_at hl 3 rfl) ?_
              refine lv_iload hx hb dX6_predictColours_239 (lv_at hl 4 rfl) ?_
              refine lv_iadd hx hb dX6_predictColours_241 ?_
              obtain ⟨x42, ex42, hF⟩ := ltt_some hF
              refine lv_topi (fun zx42 ezx42 => ?_)
              obtain rfl : x42 = zx42 := ex42.trans ezx42.symm
              refine W_st (st' := [.int x42, .ref (ad b37), .int x41, .int x39]) (by rw [va_some ho37]) ?_
              obtain ⟨hvc, hF⟩ := chk_some hF
              refine va_iald hx hb hK hP b37 1 (wld_i ct ad G s27.2 hc37 hk37) rfl hvc dX6_predictColours_242 ?_
              obtain ⟨x43, ex43, hF⟩ := ltt_some hF
              refine lv_topi (fun zx43 ezx43 => ?_)
              obtain rfl : x43 = zx43 := ex43.trans ezx43.symm
              refine lv_imul hx hb dX6_predictColours_243 ?_
              obtain ⟨x44, ex44, hF⟩ := ltt_some hF
              refine lv_topi (fun zx44 ezx44 => ?_)
              obtain rfl : x44 = zx44 := ex44.trans ezx44.symm
              refine lv_iadd hx hb dX6_predictColours_244 ?_
              obtain ⟨x45, ex45, hF⟩ := ltt_some hF
              refine lv_topi (fun zx45 ezx45 => ?_)
              obtain rfl : x45 = zx45 := ex45.trans ezx45.symm
              refine lv_bipush (v := (8 : Int32)) hx hb dX6_predictColours_245 (by decide) ?_
              refine lv_iload hx hb dX6_predictColours_247 (lv_at hl 10 rfl) ?_
              refine lv_isub hx hb dX6_predictColours_249 ?_
              obtain ⟨x46, ex46, hF⟩ := ltt_some hF
              refine lv_topi (fun zx46 ezx46 => ?_)
              obtain rfl : x46 = zx46 := ex46.trans ezx46.symm
              refine lv_iload hx hb dX6_predictColours_250 (lv_at hl 9 rfl) ?_
              refine lv_imul hx hb dX6_predictColours_252 ?_
              obtain ⟨x47, ex47, hF⟩ := ltt_some hF
              refine lv_topi (fun zx47 ezx47 => ?_)
              obtain rfl : x47 = zx47 := ex47.trans ezx47.symm
              refine lv_aloadq hx hb dX6_predictColours_253 (lv_at hl 0 rfl) ?_
              refine lv_iload hx hb dX6_predictColours_255 (lv_at hl 2 rfl) ?_
              refine lv_iload hx hb dX6_predictColours_257 (lv_at hl 5 rfl) ?_
              refine lv_iadd hx hb dX6_predictColours_259 ?_
              obtain ⟨x48, ex48, hF⟩ := ltt_some hF
              refine lv_topi (fun zx48 ezx48 => ?_)
              obtain rfl : x48 = zx48 := ex48.trans ezx48.symm
              refine W_st (st' := [.int x48, .ref (ad b37), .int x47, .int x45]) (by rw [va_some ho37]) ?_
              obtain ⟨hvc, hF⟩ := chk_some hF
              refine va_iald hx hb hK hP b37 1 (wld_i ct ad G s27.2 hc37 hk37) rfl hvc dX6_predictColours_260 ?_
              obtain ⟨x49, ex49, hF⟩ := ltt_some hF
              refine lv_topi (fun zx49 ezx49 => ?_)
              obtain rfl : x49 = zx49 := ex49.trans ezx49.symm
              refine lv_imul hx hb dX6_predictColours_261 ?_
              obtain ⟨x50, ex50, hF⟩ := ltt_some hF
              refine lv_topi (fun zx50 ezx50 => ?_)
              obtain rfl : x50 = zx50 := ex50.trans ezx50.symm
              refine lv_iadd hx hb dX6_predictColours_262 ?_
              obtain ⟨x51, ex51, hF⟩ := ltt_some hF
              refine lv_topi (fun zx51 ezx51 => ?_)
              obtain rfl : x51 = zx51 := ex51.trans ezx51.symm
              refine lv_iload hx hb dX6_predictColours_263 (lv_at hl 10 rfl) ?_
              refine lv_iload hx hb dX6_predictColours_265 (lv_at hl 9 rfl) ?_
              refine lv_imul hx hb dX6_predictColours_267 ?_
              obtain ⟨x52, ex52, hF⟩ := ltt_some hF
              refine lv_topi (fun zx52 ezx52 => ?_)
              obtain rfl : x52 = zx52 := ex52.trans ezx52.symm
              refine lv_aloadq hx hb dX6_predictColours_268 (lv_at hl 0 rfl) ?_
              refine lv_iload hx hb dX6_predictColours_270 (lv_at hl 2 rfl) ?_
              refine lv_iload hx hb dX6_predictColours_272 (lv_at hl 4 rfl) ?_
              refine lv_iadd hx hb dX6_predictColours_274 ?_
              obtain ⟨x53, ex53, hF⟩ := ltt_some hF
              refine lv_topi (fun zx53 ezx53 => ?_)
              obtain rfl : x53 = zx53 := ex53.trans ezx53.symm
              refine W_st (st' := [.int x53, .ref (ad b37), .int x52, .int x51]) (by rw [va_some ho37]) ?_
              obtain ⟨hvc, hF⟩ := chk_some hF
              refine va_iald hx hb hK hP b37 1 (wld_i ct ad G s27.2 hc37 hk37) rfl hvc dX6_predictColours_275 ?_
              obtain ⟨x54, ex54, hF⟩ := ltt_some hF
              refine lv_topi (fun zx54 ezx54 => ?_)
              obtain rfl : x54 = zx54 := ex54.trans ezx54.symm
              refine lv_imul hx hb dX6_predictColours_276 ?_
              obtain ⟨x55, ex55, hF⟩ := ltt_some hF
              refine lv_topi (fun zx55 ezx55 => ?_)
              obtain rfl : x55 = zx55 := ex55.trans ezx55.symm
              refine lv_iadd hx hb dX6_predictColours_277 ?_
              obtain ⟨x56, ex56, hF⟩ := ltt_some hF
              refine lv_topi (fun zx56 ezx56 => ?_)
              obtain rfl : x56 = zx56 := ex56.trans ezx56.symm
              refine lv_istore (lv' := [(20, .int x56), (19, va_re ad (s27.2.2 b32 s27.1.toNatClampNeg)), (18, .int s27.1), (17, .int x25), (16, .int x23), (15, .int y21), (14, .int y20), (13, .int x19), (12, .int x16), (11, .int s9.1), (10, .int x7), (9, .int x6), (8, .int x5), (7, .int x3), (0, .ref (ad a)), (1, va_re ad p0), (2, .int p1), (3, .int p2), (4, .int p3), (5, va_re ad p4), (6, .int p5)]) hx hb dX6_predictColours_278 hl (by decide) (by generalize ((s27.2.2 b32 s27.1.toNatClampNeg)) = o9; cases o9 <;> rfl) (fun ls hl => ?_)
              refine lv_aloadq hx hb dX6_predictColours_280 (lv_at hl 19 rfl) ?_
              refine lv_iload hx hb dX6_predictColours_282 (lv_at hl 20 rfl) ?_
              refine lv_bipush (v := (64 : Int32)) hx hb dX6_predictColours_284 (by decide) ?_
              refine lv_iload hx hb dX6_predictColours_286 (lv_at hl 2 rfl) ?_
              refine lv_iconst (v := (1 : Int32)) hx hb dX6_predictColours_288 (by decide) ?_
              refine lv_isub hx hb dX6_predictColours_289 ?_
              obtain ⟨x57, ex57, hF⟩ := ltt_some hF
              refine lv_topi (fun zx57 ezx57 => ?_)
              obtain rfl : x57 = zx57 := ex57.trans ezx57.symm
              refine lv_imul hx hb dX6_predictColours_290 ?_
              obtain ⟨x58, ex58, hF⟩ := ltt_some hF
              refine lv_topi (fun zx58 ezx58 => ?_)
              obtain rfl : x58 = zx58 := ex58.trans ezx58.symm
              refine lv_iadd hx hb dX6_predictColours_291 ?_
              obtain ⟨x59, ex59, hF⟩ := ltt_some hF
              refine lv_topi (fun zx59 ezx59 => ?_)
              obtain rfl : x59 = zx59 := ex59.trans ezx59.symm
              refine lv_iload hx hb dX6_predictColours_292 (lv_at hl 9 rfl) ?_
              refine lv_iload hx hb dX6_predictColours_294 (lv_at hl 18 rfl) ?_
              obtain ⟨hne, hF⟩ := chk_some hF
              refine lv_idiv hx hb dX6_predictColours_296 hne ?_
              obtain ⟨x60, ex60, hF⟩ := ltt_some hF
              refine lv_topi (fun zx60 ezx60 => ?_)
              obtain rfl : x60 = zx60 := ex60.trans ezx60.symm
              refine lv_bipush (v := (8 : Int32)) hx hb dX6_predictColours_297 (by decide) ?_
              refine lv_imul hx hb dX6_predictColours_299 ?_
              obtain ⟨x61, ex61, hF⟩ := ltt_some hF
              refine lv_topi (fun zx61 ezx61 => ?_)
              obtain rfl : x61 = zx61 := ex61.trans ezx61.symm
              refine lv_iadd hx hb dX6_predictColours_300 ?_
              obtain ⟨x62, ex62, hF⟩ := ltt_some hF
              refine lv_topi (fun zx62 ezx62 => ?_)
              obtain rfl : x62 = zx62 := ex62.trans ezx62.symm
              refine lv_iload hx hb dX6_predictColours_301 (lv_at hl 9 rfl) ?_
              refine lv_iload hx hb dX6_predictColours_303 (lv_at hl 18 rfl) ?_
              obtain ⟨hne, hF⟩ := chk_some hF
              refine lv_irem hx hb dX6_predictColours_305 hne ?_
              obtain ⟨x63, ex63, hF⟩ := ltt_some hF
              refine lv_topi (fun zx63 ezx63 => ?_)
              obtain rfl : x63 = zx63 := ex63.trans ezx63.symm
              refine lv_iadd hx hb dX6_predictColours_306 ?_
              obtain ⟨x64, ex64, hF⟩ := ltt_some hF
              refine lv_topi (fun zx64 ezx64 => ?_)
              obtain rfl : x64 = zx64 := ex64.trans ezx64.symm
              refine lv_iload hx hb dX6_predictColours_307 (lv_at hl 0 rfl) ?_
              refine lv_bipush (v := (32 : Int32)) hx hb dX6_predictColours_309 (by decide) ?_
              refine lv_iadd hx hb dX6_predictColours_311 ?_
              obtain ⟨x65, ex65, hF⟩ := ltt_some hF
              refine lv_topi (fun zx65 ezx65 => ?_)
              obtain rfl : x65 = zx65 := ex65.trans ezx65.symm
              refine lv_bipush (v := (6 : Int32)) hx hb dX6_predictColours_312 (by decide) ?_
              refine lv_ishr hx hb dX6_predictColours_314 ?_
              obtain ⟨x66, ex66, hF⟩ := ltt_some hF
              refine lv_topi (fun zx66 ezx66 => ?_)
              obtain rfl : x66 = zx66 := ex66.trans ezx66.symm
              obtain ⟨b67, ho67, hc67, hk67, hF⟩ := dr_some hF
              refine W_st (st' := [.int x66, .int x64, .ref (ad b67)]) (by rw [va_some ho67]) ?_
              obtain ⟨hvc, hF⟩ := chk_some hF
              refine va_iast hx hb hK hP hD hS b67 1 (wld_i ct ad G s27.2 hc67 hk67) rfl hvc dX6_predictColours_315 (fun H locs hP hD hS => ?_)
              obtain ⟨M68, eM68, hF⟩ := ltt_some hF
              rw [set_i ct ad G s27.2 hc67 hk67, ← eM68] at hP hD
              obtain ⟨x69, ex69, hF⟩ := ltt_some hF
              refine lv_iinc (v := x69) (lv' := [(18, .int x69), (20, .int x56), (19, va_re ad (s27.2.2 b32 s27.1.toNatClampNeg)), (17, .int x25), (16, .int x23), (15, .int y21), (14, .int y20), (13, .int x19), (12, .int x16), (11, .int s9.1), (10, .int x7), (9, .int x6), (8, .int x5), (7, .int x3), (0, .ref (ad a)), (1, va_re ad p0), (2, .int p1), (3, .int p2), (4, .int p3), (5, va_re ad p4), (6, .int p5)]) hx hb dX6_predictColours_316 hl (k := 2) rfl (by rw [ex69]; rfl) (by decide) rfl (fun ls hl => ?_)
              refine lv_goto (tgt := 192) hx hb dX6_predictColours_319 (by decide) ?_
              obtain rfl := Option.some.inj hF
              exact hwz30 _ _ _ hP hD hS (lv_sub hl [0, 3, 4, 5, 6, 7, 8, 9, 10, 11, 12, 13, 14, 15, 16, 17, 18, 19, 20] rfl)
          clear hF
          have hF := hy24
          clear hy24
          refine lv_icmp_ge (tgt := 164) hx hb dX6_predictColours_157 (by decide) (fun c70 => ?_) (fun c70 => ?_)
          · rw [if_pos c70] at hF
            refine lv_iload hx hb dX6_predictColours_164 (lv_at hl 3 rfl) ?_
            refine lv_iload hx hb dX6_predictColours_166 (lv_at hl 8 rfl) ?_
            refine lv_iconst (v := (1 : Int32)) hx hb dX6_predictColours_168 (by decide) ?_
            refine lv_isub hx hb dX6_predictColours_169 ?_
            obtain ⟨x71, ex71, hF⟩ := ltt_some hF
            refine lv_topi (fun zx71 ezx71 => ?_)
            obtain rfl : x71 = zx71 := ex71.trans ezx71.symm
            obtain ⟨y72, hy72, hF⟩ := bnd_some hF
            have J72 : ∀ (H : Heap) (locs : List Loc) (ls : Array Slot), va_P D classes (wld ct ad G s9.2) H → va_D A (wld ct ad G s9.2) → va_S A s.heap H locs → lv_has ls 21 [(16, .int x23), (15, .int y21), (14, .int y20), (13, .int x19), (12, .int x16), (11, .int s9.1), (10, .int x7), (9, .int x6), (8, .int x5), (7, .int x3), (0, .ref (ad a)), (1, va_re ad p0), (2, .int p1), (3, .int p2), (4, .int p3), (5, va_re ad p4), (6, .int p5)] → W p l e (headSpec wuX6_predictColours ({ frames := 0, cells := 0, slots := 0, locals := 0 })).room s m ([.ref (ad a), va_re ad p0, .int p1, .int p2, .int p3, va_re ad p4, .int p5] : List Value).toArray below meth c H locs 0 0 (MQ below (va_Qv (fun (_ : Unit) => True) (fun _ t => kE D ct ad G A y t) A) ([.ref (ad a), va_re ad p0, .int p1, .int p2, .int p3, va_re ad p4, .int p5] : List Value).toArray s 0 0 A) (F0 m 184 ls [.int y72]) := by
              intro H locs ls hP hD hS hl
              obtain rfl := Option.some.inj hF
              exact J24 _ _ _ hP hD hS (lv_sub hl [0, 1, 2, 3, 4, 5, 6, 7, 8, 9, 10, 11, 12, 13, 14, 15, 16] rfl)
            clear hF
            have hF := hy72
            clear hy72
            refine lv_icmp_lt (tgt := 180) hx hb dX6_predictColours_170 (by decide) (fun c73 => ?_) (fun c73 => ?_)
            · rw [if_pos c73] at hF
              refine lv_iload hx hb dX6_predictColours_180 (lv_at hl 3 rfl) ?_
              refine lv_iconst (v := (1 : Int32)) hx hb dX6_predictColours_182 (by decide) ?_
              refine lv_iadd hx hb dX6_predictColours_183 ?_
              obtain ⟨x74, ex74, hF⟩ := ltt_some hF
              refine lv_topi (fun zx74 ezx74 => ?_)
              obtain rfl : x74 = zx74 := ex74.trans ezx74.symm
              obtain rfl := Option.some.inj hF
              exact J72 _ _ _ hP hD hS (lv_sub hl [0, 1, 2, 3, 4, 5, 6, 7, 8, 9, 10, 11, 12, 13, 14, 15, 16] rfl)
            · rw [if_neg c73] at hF
              refine lv_iload hx hb dX6_predictColours_173 (lv_at hl 8 rfl) ?_
              refine lv_iconst (v := (1 : Int32)) hx hb dX6_predictColours_175 (by decide) ?_
              refine lv_isub hx hb dX6_predictColours_176 ?_
              obtain ⟨x75, ex75, hF⟩ := ltt_some hF
              refine lv_topi (fun zx75 ezx75 => ?_)
              obtain rfl : x75 = zx75 := ex75.trans ezx75.symm
              refine lv_goto (tgt := 184) hx hb dX6_predictColours_177 (by decide) ?_
              obtain rfl := Option.some.inj hF
              exact J72 _ _ _ hP hD hS (lv_sub hl [0, 1, 2, 3, 4, 5, 6, 7, 8, 9, 10, 11, 12, 13, 14, 15, 16] rfl)
          · rw [if_neg c70] at hF
            refine lv_iconst (v := (0 : Int32)) hx hb dX6_predictColours_160 (by decide) ?_
            refine lv_goto (tgt := 184) hx hb dX6_predictColours_161 (by decide) ?_
            obtain rfl := Option.some.inj hF
            exact J24 _ _ _ hP hD hS (lv_sub hl [0, 1, 2, 3, 4, 5, 6, 7, 8, 9, 10, 11, 12, 13, 14, 15, 16] rfl)
        clear hF
        have hF := hy22
        clear hy22
        refine lv_if_ge (tgt := 133) hx hb dX6_predictColours_126 (by decide) (fun c76 => ?_) (fun c76 => ?_)
        · rw [if_pos c76] at hF
          refine lv_iload hx hb dX6_predictColours_133 (lv_at hl 2 rfl) ?_
          refine lv_iload hx hb dX6_predictColours_135 (lv_at hl 7 rfl) ?_
          obtain ⟨y77, hy77, hF⟩ := bnd_some hF
          have J77 : ∀ (H : Heap) (locs : List Loc) (ls : Array Slot), va_P D classes (wld ct ad G s9.2) H → va_D A (wld ct ad G s9.2) → va_S A s.heap H locs → lv_has ls 21 [(15, .int y21), (14, .int y20), (13, .int x19), (12, .int x16), (11, .int s9.1), (10, .int x7), (9, .int x6), (8, .int x5), (7, .int x3), (0, .ref (ad a)), (1, va_re ad p0), (2, .int p1), (3, .int p2), (4, .int p3), (5, va_re ad p4), (6, .int p5)] → W p l e (headSpec wuX6_predictColours ({ frames := 0, cells := 0, slots := 0, locals := 0 })).room s m ([.ref (ad a), va_re ad p0, .int p1, .int p2, .int p3, va_re ad p4, .int p5] : List Value).toArray below meth c H locs 0 0 (MQ below (va_Qv (fun (_ : Unit) => True) (fun _ t => kE D ct ad G A y t) A) ([.ref (ad a), va_re ad p0, .int p1, .int p2, .int p3, va_re ad p4, .int p5] : List Value).toArray s 0 0 A) (F0 m 149 ls [.int y77]) := by
            intro H locs ls hP hD hS hl
            obtain rfl := Option.some.inj hF
            exact J22 _ _ _ hP hD hS (lv_sub hl [0, 1, 2, 3, 4, 5, 6, 7, 8, 9, 10, 11, 12, 13, 14, 15] rfl)
          clear hF
          have hF := hy77
          clear hy77
          refine lv_icmp_lt (tgt := 147) hx hb dX6_predictColours_137 (by decide) (fun c78 => ?_) (fun c78 => ?_)
          · rw [if_pos c78] at hF
            refine lv_iload hx hb dX6_predictColours_147 (lv_at hl 2 rfl) ?_
            obtain rfl := Option.some.inj hF
            exact J77 _ _ _ hP hD hS (lv_sub hl [0, 1, 2, 3, 4, 5, 6, 7, 8, 9, 10, 11, 12, 13, 14, 15] rfl)
          · rw [if_neg c78] at hF
            refine lv_iload hx hb dX6_predictColours_140 (lv_at hl 7 rfl) ?_
            refine lv_iconst (v := (1 : Int32)) hx hb dX6_predictColours_142 (by decide) ?_
            refine lv_isub hx hb dX6_predictColours_143 ?_
            obtain ⟨x79, ex79, hF⟩ := ltt_some hF
            refine lv_topi (fun zx79 ezx79 => ?_)
            obtain rfl : x79 = zx79 := ex79.trans ezx79.symm
            refine lv_goto (tgt := 149) hx hb dX6_predictColours_144 (by decide) ?_
            obtain rfl := Option.some.inj hF
            exact J77 _ _ _ hP hD hS (lv_sub hl [0, 1, 2, 3, 4, 5, 6, 7, 8, 9, 10, 11, 12, 13, 14, 15] rfl)
        · rw [if_neg c76] at hF
          refine lv_iconst (v := (0 : Int32)) hx hb dX6_predictColours_129 (by decide) ?_
          refine lv_goto (tgt := 149) hx hb dX6_predictColours_130 (by decide) ?_
          obtain rfl := Option.some.inj hF
          exact J22 _ _ _ hP hD hS (lv_sub hl [0, 1, 2, 3, 4, 5, 6, 7, 8, 9, 10, 11, 12, 13, 14, 15] rfl)
      clear hF
      have hF := hy21
      clear hy21
      refine lv_icmp_ge (tgt := 102) hx hb dX6_predictColours_95 (by decide) (fun c80 => ?_) (fun c80 => ?_)
      · rw [if_pos c80] at hF
        refine lv_iload hx hb dX6_predictColours_102 (lv_at hl 2 rfl) ?_
        refine lv_iload hx hb dX6_predictColours_104 (lv_at hl 7 rfl) ?_
        refine lv_iconst (v := (1 : Int32)) hx hb dX6_predictColours_106 (by decide) ?_
        refine lv_isub hx hb dX6_predictColours_107 ?_
        obtain ⟨x81, ex81, hF⟩ := ltt_some hF
        refine lv_topi (fun zx81 ezx81 => ?_)
        obtain rfl : x81 = zx81 := ex81.trans ezx81.symm
        obtain ⟨y82, hy82, hF⟩ := bnd_some hF
        have J82 : ∀ (H : Heap) (locs : List Loc) (ls : Array Slot), va_P D classes (wld ct ad G s9.2) H → va_D A (wld ct ad G s9.2) → va_S A s.heap H locs → lv_has ls 21 [(14, .int y20), (13, .int x19), (12, .int x16), (11, .int s9.1), (10, .int x7), (9, .int x6), (8, .int x5), (7, .int x3), (0, .ref (ad a)), (1, va_re ad p0), (2, .int p1), (3, .int p2), (4, .int p3), (5, va_re ad p4), (6, .int p5)] → W p l e (headSpec wuX6_predictColours ({ frames := 0, cells := 0, slots := 0, locals := 0 })).room s m ([.ref (ad a), va_re ad p0, .int p1, .int p2, .int p3, va_re ad p4, .int p5] : List Value).toArray below meth c H locs 0 0 (MQ below (va_Qv (fun (_ : Unit) => True) (fun _ t => kE D ct ad G A y t) A) ([.ref (ad a), va_re ad p0, .int p1, .int p2, .int p3, va_re ad p4, .int p5] : List Value).toArray s 0 0 A) (F0 m 122 ls [.int y82]) := by
          intro H locs ls hP hD hS hl
          obtain rfl := Option.some.inj hF
          exact J21 _ _ _ hP hD hS (lv_sub hl [0, 1, 2, 3, 4, 5, 6, 7, 8, 9, 10, 11, 12, 13, 14] rfl)
        clear hF
        have hF := hy82
        clear hy82
        refine lv_icmp_lt (tgt := 118) hx hb dX6_predictColours_108 (by decide) (fun c83 => ?_) (fun c83 => ?_)
        · rw [if_pos c83] at hF
          refine lv_iload hx hb dX6_predictColours_118 (lv_at hl 2 rfl) ?_
          refine lv_iconst (v := (1 : Int32)) hx hb dX6_predictColours_120 (by decide) ?_
          refine lv_iadd hx hb dX6_predictColours_121 ?_
          obtain ⟨x84, ex84, hF⟩ := ltt_some hF
          refine lv_topi (fun zx84 ezx84 => ?_)
          obtain rfl : x84 = zx84 := ex84.trans ezx84.symm
          obtain rfl := Option.some.inj hF
          exact J82 _ _ _ hP hD hS (lv_sub hl [0, 1, 2, 3, 4, 5, 6, 7, 8, 9, 10, 11, 12, 13, 14] rfl)
        · rw [if_neg c83] at hF
          refine lv_iload hx hb dX6_predictColours_111 (lv_at hl 7 rfl) ?_
          refine lv_iconst (v := (1 : Int32)) hx hb dX6_predictColours_113 (by decide) ?_
          refine lv_isub hx hb dX6_predictColours_114 ?_
          obtain ⟨x85, ex85, hF⟩ := ltt_some hF
          refine lv_topi (fun zx85 ezx85 => ?_)
          obtain rfl : x85 = zx85 := ex85.trans ezx85.symm
          refine lv_goto (tgt := 122) hx hb dX6_predictColours_115 (by decide) ?_
          obtain rfl := Option.some.inj hF
          exact J82 _ _ _ hP hD hS (lv_sub hl [0, 1, 2, 3, 4, 5, 6, 7, 8, 9, 10, 11, 12, 13, 14] rfl)
      · rw [if_neg c80] at hF
        refine lv_iconst (v := (0 : Int32)) hx hb dX6_predictColours_98 (by decide) ?_
        refine lv_goto (tgt := 122) hx hb dX6_predictColours_99 (by decide) ?_
        obtain rfl := Option.some.inj hF
        exact J21 _ _ _ hP hD hS (lv_sub hl [0, 1, 2, 3, 4, 5, 6, 7, 8, 9, 10, 11, 12, 13, 14] rfl)
    clear hF
    have hF := hy20
    clear hy20
    refine lv_if_ge (tgt := 74) hx hb dX6_predictColours_67 (by decide) (fun c86 => ?_) (fun c86 => ?_)
    · rw [if_pos c86] at hF
      refine lv_iload hx hb dX6_predictColours_74 (lv_at hl 1 rfl) ?_
      refine lv_iload hx hb dX6_predictColours_76 (lv_at hl 6 rfl) ?_
      obtain ⟨y87, hy87, hF⟩ := bnd_some hF
      have J87 : ∀ (H : Heap) (locs : List Loc) (ls : Array Slot), va_P D classes (wld ct ad G s9.2) H → va_D A (wld ct ad G s9.2) → va_S A s.heap H locs → lv_has ls 21 [(13, .int x19), (12, .int x16), (11, .int s9.1), (10, .int x7), (9, .int x6), (8, .int x5), (7, .int x3), (0, .ref (ad a)), (1, va_re ad p0), (2, .int p1), (3, .int p2), (4, .int p3), (5, va_re ad p4), (6, .int p5)] → W p l e (headSpec wuX6_predictColours ({ frames := 0, cells := 0, slots := 0, locals := 0 })).room s m ([.ref (ad a), va_re ad p0, .int p1, .int p2, .int p3, va_re ad p4, .int p5] : List Value).toArray below meth c H locs 0 0 (MQ below (va_Qv (fun (_ : Unit) => True) (fun _ t => kE D ct ad G A y t) A) ([.ref (ad a), va_re ad p0, .int p1, .int p2, .int p3, va_re ad p4, .int p5] : List Value).toArray s 0 0 A) (F0 m 90 ls [.int y87]) := by
        intro H locs ls hP hD hS hl
        obtain rfl := Option.some.inj hF
        exact J20 _ _ _ hP hD hS (lv_sub hl [0, 1, 2, 3, 4, 5, 6, 7, 8, 9, 10, 11, 12, 13] rfl)
      clear hF
      have hF := hy87
      clear hy87
      refine lv_icmp_lt (tgt := 88) hx hb dX6_predictColours_78 (by decide) (fun c88 => ?_) (fun c88 => ?_)
      · rw [if_pos c88] at hF
        refine lv_iload hx hb dX6_predictColours_88 (lv_at hl 1 rfl) ?_
        obtain rfl := Option.some.inj hF
        exact J87 _ _ _ hP hD hS (lv_sub hl [0, 1, 2, 3, 4, 5, 6, 7, 8, 9, 10, 11, 12, 13] rfl)
      · rw [if_neg c88] at hF
        refine lv_iload hx hb dX6_predictColours_81 (lv_at hl 6 rfl) ?_
        refine lv_iconst (v := (1 : Int32)) hx hb dX6_predictColours_83 (by decide) ?_
        refine lv_isub hx hb dX6_predictColours_84 ?_
        obtain ⟨x89, ex89, hF⟩ := ltt_some hF
        refine lv_topi (fun zx89 ezx89 => ?_)
        obtain rfl : x89 = zx89 := ex89.trans ezx89.symm
        refine lv_goto (tgt := 90) hx hb dX6_predictColours_85 (by decide) ?_
        obtain rfl := Option.some.inj hF
        exact J87 _ _ _ hP hD hS (lv_sub hl [0, 1, 2, 3, 4, 5, 6, 7, 8, 9, 10, 11, 12, 13] rfl)
    · rw [if_neg c86] at hF
      refine lv_iconst (v := (0 : Int32)) hx hb dX6_predictColours_70 (by decide) ?_
      refine lv_goto (tgt := 90) hx hb dX6_predictColours_71 (by decide) ?_
      obtain rfl := Option.some.inj hF
      exact J20 _ _ _ hP hD hS (lv_sub hl [0, 1, 2, 3, 4, 5, 6, 7, 8, 9, 10, 11, 12, 13] rfl)
theorem dX6_roundingOf_0 : decode cX6_roundingOf 0 = .ok (.iconst 1, 1) := by decide +kernel
theorem dX6_roundingOf_1 : decode cX6_roundingOf 1 = .ok (.bipush 15, 2) := by decide +kernel
theorem dX6_roundingOf_3 : decode cX6_roundingOf 3 = .ok (.iload_n 0, 1) := by decide +kernel
theorem dX6_roundingOf_4 : decode cX6_roundingOf 4 = .ok (.bipush 6, 2) := by decide +kernel
theorem dX6_roundingOf_6 : decode cX6_roundingOf 6 = .ok (.idiv, 1) := by decide +kernel
theorem dX6_roundingOf_7 : decode cX6_roundingOf 7 = .ok (.iadd, 1) := by decide +kernel
theorem dX6_roundingOf_8 : decode cX6_roundingOf 8 = .ok (.ishl, 1) := by decide +kernel
theorem dX6_roundingOf_9 : decode cX6_roundingOf 9 = .ok (.iload_n 1, 1) := by decide +kernel
theorem dX6_roundingOf_10 : decode cX6_roundingOf 10 = .ok (.ifCond .eq 7, 3) := by decide +kernel
theorem dX6_roundingOf_13 : decode cX6_roundingOf 13 = .ok (.iconst 3, 1) := by decide +kernel
theorem dX6_roundingOf_14 : decode cX6_roundingOf 14 = .ok (.goto 5, 3) := by decide +kernel
theorem dX6_roundingOf_17 : decode cX6_roundingOf 17 = .ok (.bipush 6, 2) := by decide +kernel
theorem dX6_roundingOf_19 : decode cX6_roundingOf 19 = .ok (.idiv, 1) := by decide +kernel
theorem dX6_roundingOf_20 : decode cX6_roundingOf 20 = .ok (.ireturn, 1) := by decide +kernel
def FX6_roundingOf (G : GG) (M : DD) (p0 : Int32) (p1 : Int32) : Option (DD × Int32) :=
  ltt (p0 / ((6 : Int32))) fun x1 =>
  ltt ((((15 : Int32)) + x1)) fun x2 =>
  ltt ((((1 : Int32)) <<< (x2 &&& 31))) fun x3 =>
  bnd (if p1 = ((0 : Int32)) then (some ((6 : Int32))) else
  (some ((3 : Int32)))) fun (y4 : Int32) =>
  chk (¬ y4 = 0) <|
  ltt (x3 / y4) fun x5 =>
  some (M, x5)
set_option maxHeartbeats 4000000 in
set_option maxRecDepth 100000 in
theorem kX6_roundingOf (l : Launch) (D : va_G) (ct : CT) (ad : Nat → Nat) (Z : Nat → Nat) (G : GG) (M : DD) (sz : Nat) (p0 : Int32) (p1 : Int32) (y : DD × Int32) (hF : FX6_roundingOf G M p0 p1 = some y) : Met l yX6_roundingOf wuX6_roundingOf ({ frames := 0, cells := 0, slots := 0, locals := 0 }) (va_Pc [.int p0, .int p1] (kB D ct ad Z G M sz)) (va_Qi (fun (q : Int32) (_ : Unit) => q = y.2) (fun _ t => kE D ct ad G (wA ad G sz) y.1 t) (wA ad G sz)) 0 0 (wA ad G sz) := by
  refine Met.ofW (cc := cX6_roundingOf) (maxL := 2) (ret := (some .int)) (by decide) rfl ?_
  intro p e s m args below meth c s₁ B hml hv
  obtain ⟨rfl, hsz, hP, hK, hD0, hZ, hN⟩ := hv
  have hx := B.exec
  have hb := B.bytes
  have hr := B.returns
  have hts := atoms_spec (ws := wuX6_roundingOf) B.pre
  have hown : s.vm.findClass RX6 = some m.cls := findClass_of_methodNamed B.named
  have hlocks := B.notSynchronized
  subst hsz
  have hD := wD_self (sz := s.heap.size) hD0
  have hA9 : ∀ q, s.heap.size ≤ q → wA ad G s.heap.size q := fun q h => Or.inr h
  generalize hAe : wA ad G s.heap.size = A at hD hA9 hZ ⊢
  have hS : va_S A s.heap s.heap [] := va_S.rf
  have hl := lv_entry ([.int p0, .int p1]) (n := 2) (Nat.le_of_ble_eq_true rfl)
  rw [lg_entry_eq]
  generalize (lg_sl ([.int p0, .int p1]) ++ List.replicate (2 - (lg_sl ([.int p0, .int p1])).length) Slot.unset).toArray = ls at hl ⊢
  have hl : lv_has ls 2 [(0, .int p0), (1, .int p1)] := hl
  unfold FX6_roundingOf at hF
  refine lv_iconst (v := (1 : Int32)) hx hb dX6_roundingOf_0 (by decide) ?_
  refine lv_bipush (v := (15 : Int32)) hx hb dX6_roundingOf_1 (by decide) ?_
  refine lv_iload_n hx hb dX6_roundingOf_3 rfl (lv_at hl 0 rfl) ?_
  refine lv_bipush (v := (6 : Int32)) hx hb dX6_roundingOf_4 (by decide) ?_
  refine lv_idiv hx hb dX6_roundingOf_6 (by decide) ?_
  obtain ⟨x1, ex1, hF⟩ := ltt_some hF
  refine lv_topi (fun zx1 ezx1 => ?_)
  obtain rfl : x1 = zx1 := ex1.trans ezx1.symm
  refine lv_iadd hx hb dX6_roundingOf_7 ?_
  obtain ⟨x2, ex2, hF⟩ := ltt_some hF
  refine lv_topi (fun zx2 ezx2 => ?_)
  obtain rfl : x2 = zx2 := ex2.trans ezx2.symm
  refine lv_ishl hx hb dX6_roundingOf_8 ?_
  obtain ⟨x3, ex3, hF⟩ := ltt_some hF
  refine lv_topi (fun zx3 ezx3 => ?_)
  obtain rfl : x3 = zx3 := ex3.trans ezx3.symm
  refine lv_iload_n hx hb dX6_roundingOf_9 rfl (lv_at hl 1 rfl) ?_
  obtain ⟨y4, hy4, hF⟩ := bnd_some hF
  have J4 : ∀ (H : Heap) (locs : List Loc) (ls : Array Slot), va_P D classes (wld ct ad G M) H → va_D A (wld ct ad G M) → va_S A s.heap H locs → lv_has ls 2 [(0, .int p0), (1, .int p1)] → W p l e (headSpec wuX6_roundingOf ({ frames := 0, cells := 0, slots := 0, locals := 0 })).room s m ([.int p0, .int p1] : List Value).toArray below meth c H locs 0 0 (MQ below (va_Qi (fun (q : Int32) (_ : Unit) => q = y.2) (fun _ t => kE D ct ad G A y.1 t) A) ([.int p0, .int p1] : List Value).toArray s 0 0 A) (F0 m 19 ls [.int y4, .int x3]) := by
    intro H locs ls hP hD hS hl
    obtain ⟨hne, hF⟩ := chk_some hF
    refine lv_idiv hx hb dX6_roundingOf_19 hne ?_
    obtain ⟨x5, ex5, hF⟩ := ltt_some hF
    refine lv_topi (fun zx5 ezx5 => ?_)
    obtain rfl : x5 = zx5 := ex5.trans ezx5.symm
    obtain rfl := Option.some.inj hF
    exact W.iret (v := x5) hx hb hr (fun t ht hW => ⟨⟨_, (), rfl, rfl, ⟨by rw [ht]; exact hP, va_K.moved hW.alike hK, hD⟩⟩, hS.F ht⟩) hS.2.2 dX6_roundingOf_20
  clear hF
  have hF := hy4
  clear hy4
  refine lv_if_eq (tgt := 17) hx hb dX6_roundingOf_10 (by decide) (fun c6 => ?_) (fun c6 => ?_)
  · rw [if_pos c6] at hF
    refine lv_bipush (v := (6 : Int32)) hx hb dX6_roundingOf_17 (by decide) ?_
    obtain rfl := Option.some.inj hF
    exact J4 _ _ _ hP hD hS (lv_sub hl [0, 1] rfl)
  · rw [if_neg c6] at hF
    refine lv_iconst (v := (3 : Int32)) hx hb dX6_roundingOf_13 (by decide) ?_
    refine lv_goto (tgt := 19) hx hb dX6_roundingOf_14 (by decide) ?_
    obtain rfl := Option.some.inj hF
    exact J4 _ _ _ hP hD hS (lv_sub hl [0, 1] rfl)
theorem dX6_sumAround_0 : decode cX6_sumAround 0 = .ok (.iconst 0, 1) := by decide +kernel
theorem dX6_sumAround_1 : decode cX6_sumAround 1 = .ok (.istore_n 3, 1) := by decide +kernel
theorem dX6_sumAround_2 : decode cX6_sumAround 2 = .ok (.iload_n 1, 1) := by decide +kernel
theorem dX6_sumAround_3 : decode cX6_sumAround 3 = .ok (.istore 4, 2) := by decide +kernel
theorem dX6_sumAround_5 : decode cX6_sumAround 5 = .ok (.iload 4, 2) := by decide +kernel
theorem dX6_sumAround_7 : decode cX6_sumAround 7 = .ok (.iload_n 1, 1) := by decide +kernel
theorem dX6_sumAround_8 : decode cX6_sumAround 8 = .ok (.iload_n 2, 1) := by decide +kernel
theorem dX6_sumAround_9 : decode cX6_sumAround 9 = .ok (.iadd, 1) := by decide +kernel
theorem dX6_sumAround_10 : decode cX6_sumAround 10 = .ok (.if_icmp .ge 19, 3) := by decide +kernel
theorem dX6_sumAround_13 : decode cX6_sumAround 13 = .ok (.iload_n 3, 1) := by decide +kernel
theorem dX6_sumAround_14 : decode cX6_sumAround 14 = .ok (.aload_n 0, 1) := by decide +kernel
theorem dX6_sumAround_15 : decode cX6_sumAround 15 = .ok (.getfield 36, 3) := by decide +kernel
theorem dX6_sumAround_18 : decode cX6_sumAround 18 = .ok (.iload 4, 2) := by decide +kernel
theorem dX6_sumAround_20 : decode cX6_sumAround 20 = .ok (.iaload, 1) := by decide +kernel
theorem dX6_sumAround_21 : decode cX6_sumAround 21 = .ok (.iadd, 1) := by decide +kernel
theorem dX6_sumAround_22 : decode cX6_sumAround 22 = .ok (.istore_n 3, 1) := by decide +kernel
theorem dX6_sumAround_23 : decode cX6_sumAround 23 = .ok (.iinc 4 1, 3) := by decide +kernel
theorem dX6_sumAround_26 : decode cX6_sumAround 26 = .ok (.goto (-21), 3) := by decide +kernel
theorem dX6_sumAround_29 : decode cX6_sumAround 29 = .ok (.iload_n 3, 1) := by decide +kernel
theorem dX6_sumAround_30 : decode cX6_sumAround 30 = .ok (.ireturn, 1) := by decide +kernel
def FX6_sumAround (G : GG) (M : DD) (a : Nat) (p0 : Int32) (p1 : Int32) : Option (DD × Int32) :=
  bnd (itr (fun (s2 : Int32 × Int32) => ((ltt ((p0 + p1)) fun x5 =>
  if x5 ≤ s2.2 then (some (.inr (s2.1, s2.2))) else
  (dr G 13 ((M.2 a 8)) fun b7 =>
  chk (¬ (s2.2 < 0 ∨ G.2.2 b7 ≤ s2.2.toNatClampNeg)) <|
  ltt (M.1 b7 s2.2.toNatClampNeg) fun x8 =>
  ltt ((s2.1 + x8)) fun x9 =>
  ltt (s2.2 + (1 : Int32)) fun x10 =>
  some (.inl (x9, x10)))) : Option ((Int32 × Int32) ⊕ (Int32 × Int32)))) 1000000 ((0 : Int32), p0)) fun (y1 : Int32 × Int32) =>
  some (M, y1.1)
set_option maxHeartbeats 4000000 in
set_option maxRecDepth 100000 in
theorem kX6_sumAround (l : Launch) (D : va_G) (ct : CT) (ad : Nat → Nat) (Z : Nat → Nat) (G : GG) (M : DD) (sz : Nat) (a : Nat) (p0 : Int32) (p1 : Int32) (y : DD × Int32) (hc : a < G.1) (hk : G.2.1 a = 6) (hF : FX6_sumAround G M a p0 p1 = some y) : Met l yX6_sumAround wuX6_sumAround ({ frames := 0, cells := 0, slots := 0, locals := 0 }) (va_Pc [.ref (ad a), .int p0, .int p1] (kB D ct ad Z G M sz)) (va_Qi (fun (q : Int32) (_ : Unit) => q = y.2) (fun _ t => kE D ct ad G (wA ad G sz) y.1 t) (wA ad G sz)) 0 0 (wA ad G sz) := by
  refine Met.ofW (cc := cX6_sumAround) (maxL := 5) (ret := (some .int)) (by decide) rfl ?_
  intro p e s m args below meth c s₁ B hml hv
  obtain ⟨rfl, hsz, hP, hK, hD0, hZ, hN⟩ := hv
  have hx := B.exec
  have hb := B.bytes
  have hr := B.returns
  have hts := atoms_spec (ws := wuX6_sumAround) B.pre
  have hown : s.vm.findClass RX6 = some m.cls := findClass_of_methodNamed B.named
  have hlocks := B.notSynchronized
  subst hsz
  have hD := wD_self (sz := s.heap.size) hD0
  have hA9 : ∀ q, s.heap.size ≤ q → wA ad G s.heap.size q := fun q h => Or.inr h
  generalize hAe : wA ad G s.heap.size = A at hD hA9 hZ ⊢
  have hS : va_S A s.heap s.heap [] := va_S.rf
  have hl := lv_entry ([.ref (ad a), .int p0, .int p1]) (n := 5) (Nat.le_of_ble_eq_true rfl)
  rw [lg_entry_eq]
  generalize (lg_sl ([.ref (ad a), .int p0, .int p1]) ++ List.replicate (5 - (lg_sl ([.ref (ad a), .int p0, .int p1])).length) Slot.unset).toArray = ls at hl ⊢
  have hl : lv_has ls 5 [(0, .ref (ad a)), (1, .int p0), (2, .int p1)] := hl
  unfold FX6_sumAround at hF
  refine lv_iconst (v := (0 : Int32)) hx hb dX6_sumAround_0 (by decide) ?_
  refine lv_istore_n (lv' := [(3, .int (0 : Int32)), (0, .ref (ad a)), (1, .int p0), (2, .int p1)]) hx hb dX6_sumAround_1 rfl hl (by decide) rfl (fun ls hl => ?_)
  refine lv_iload_n hx hb dX6_sumAround_2 rfl (lv_at hl 2 rfl) ?_
  refine lv_istore (lv' := [(4, .int p0), (3, .int (0 : Int32)), (0, .ref (ad a)), (1, .int p0), (2, .int p1)]) hx hb dX6_sumAround_3 hl (by decide) rfl (fun ls hl => ?_)
  obtain ⟨y1, hy1, hF⟩ := bnd_some hF
  have K1 : ∀ (H : Heap) (locs : List Loc) (ls : Array Slot), va_P D classes (wld ct ad G M) H → va_D A (wld ct ad G M) → va_S A s.heap H locs → lv_has ls 5 [(4, .int y1.2), (3, .int y1.1), (0, .ref (ad a)), (1, .int p0), (2, .int p1)] → W p l e (headSpec wuX6_sumAround ({ frames := 0, cells := 0, slots := 0, locals := 0 })).room s m ([.ref (ad a), .int p0, .int p1] : List Value).toArray below meth c H locs 0 0 (MQ below (va_Qi (fun (q : Int32) (_ : Unit) => q = y.2) (fun _ t => kE D ct ad G A y.1 t) A) ([.ref (ad a), .int p0, .int p1] : List Value).toArray s 0 0 A) (F0 m 29 ls []) := by
    intro H locs ls hP hD hS hl
    refine lv_iload_n hx hb dX6_sumAround_29 rfl (lv_at hl 1 rfl) ?_
    obtain rfl := Option.some.inj hF
    exact W.iret (v := y1.1) hx hb hr (fun t ht hW => ⟨⟨_, (), rfl, rfl, ⟨by rw [ht]; exact hP, va_K.moved hW.alike hK, hD⟩⟩, hS.F ht⟩) hS.2.2 dX6_sumAround_30
  clear hF
  refine itr_rule (fun (s2 : Int32 × Int32) => ∀ (H : Heap) (locs : List Loc) (ls : Array Slot), va_P D classes (wld ct ad G M) H → va_D A (wld ct ad G M) → va_S A s.heap H locs → lv_has ls 5 [(4, .int s2.2), (3, .int s2.1), (0, .ref (ad a)), (1, .int p0), (2, .int p1)] → W p l e (headSpec wuX6_sumAround ({ frames := 0, cells := 0, slots := 0, locals := 0 })).room s m ([.ref (ad a), .int p0, .int p1] : List Value).toArray below meth c H locs 0 0 (MQ below (va_Qi (fun (q : Int32) (_ : Unit) => q = y.2) (fun _ t => kE D ct ad G A y.1 t) A) ([.ref (ad a), .int p0, .int p1] : List Value).toArray s 0 0 A) (F0 m 5 ls [])) ?_ _ _ hy1 _ _ _ hP hD hS (lv_sub hl [0, 1, 2, 3, 4] rfl)
  rintro s2 ⟨z4, hF, hwz4⟩ H locs ls hP hD hS hl
  try dsimp only at hF
  refine lv_iload hx hb dX6_sumAround_5 (lv_at hl 0 rfl) ?_
  refine lv_iload_n hx hb dX6_sumAround_7 rfl (lv_at hl 3 rfl) ?_
  refine lv_iload_n hx hb dX6_sumAround_8 rfl (lv_at hl 4 rfl) ?_
  refine lv_iadd hx hb dX6_sumAround_9 ?_
  obtain ⟨x5, ex5, hF⟩ := ltt_some hF
  refine lv_topi (fun zx5 ezx5 => ?_)
  obtain rfl : x5 = zx5 := ex5.trans ezx5.symm
  refine lv_icmp_ge (tgt := 29) hx hb dX6_sumAround_10 (by decide) (fun c6 => ?_) (fun c6 => ?_)
  · rw [if_pos c6] at hF
    obtain rfl := Option.some.inj hF
    subst hwz4
    exact K1 _ _ _ hP hD hS (lv_sub hl [0, 1, 2, 3, 4] rfl)
  · rw [if_neg c6] at hF
    refine lv_iload_n hx hb dX6_sumAround_13 rfl (lv_at hl 1 rfl) ?_
    refine lv_aload_n hx hb dX6_sumAround_14 rfl (lv_at hl 2 rfl) ?_
    refine va_get (D := D) (ci := 6) (v := va_re ad (M.2 a 8)) (C := RX6) (T := TX6) (N := 14) hx hb hts (mus hf_X6) hown hK hP a (wld_o ct ad G M hc hk (by decide)) rfl 8 (by decide) (hts (.fieldLink RX6 36 "VideoSuite$Samples" "around" "[I") (mu mw_544)) (fun _ h9 => h9) rfl dX6_sumAround_15 ?_
    refine lv_iload hx hb dX6_sumAround_18 (lv_at hl 0 rfl) ?_
    obtain ⟨b7, ho7, hc7, hk7, hF⟩ := dr_some hF
    refine W_st (st' := [.int s2.2, .ref (ad b7), .int s2.1]) (by rw [va_some ho7]) ?_
    obtain ⟨hvc, hF⟩ := chk_some hF
    refine va_iald hx hb hK hP b7 1 (wld_i ct ad G M hc7 hk7) rfl hvc dX6_sumAround_20 ?_
    obtain ⟨x8, ex8, hF⟩ := ltt_some hF
    refine lv_topi (fun zx8 ezx8 => ?_)
    obtain rfl : x8 = zx8 := ex8.trans ezx8.symm
    refine lv_iadd hx hb dX6_sumAround_21 ?_
    obtain ⟨x9, ex9, hF⟩ := ltt_some hF
    refine lv_topi (fun zx9 ezx9 => ?_)
    obtain rfl : x9 = zx9 := ex9.trans ezx9.symm
    refine lv_istore_n (lv' := [(3, .int x9), (4, .int s2.2), (0, .ref (ad a)), (1, .int p0), (2, .int p1)]) hx hb dX6_sumAround_22 rfl hl (by decide) rfl (fun ls hl => ?_)
    obtain ⟨x10, ex10, hF⟩ := ltt_some hF
    refine lv_iinc (v := x10) (lv' := [(4, .int x10), (3, .int x9), (0, .ref (ad a)), (1, .int p0), (2, .int p1)]) hx hb dX6_sumAround_23 hl (k := 1) rfl (by rw [ex10]; rfl) (by decide) rfl (fun ls hl => ?_)
    refine lv_goto (tgt := 5) hx hb dX6_sumAround_26 (by decide) ?_
    obtain rfl := Option.some.inj hF
    exact hwz4 _ _ _ hP hD hS (lv_sub hl [0, 1, 2, 3, 4] rfl)
