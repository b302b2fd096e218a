theorem dX6_colourAt_0 : decode cX6_colourAt 0 = .ok (.bipush 8, 2) := by decide +kernel
theorem dX6_colourAt_2 : decode cX6_colourAt 2 = .ok (.iload_n 1, 1) := by decide +kernel
theorem dX6_colourAt_3 : decode cX6_colourAt 3 = .ok (.aload_n 0, 1) := by decide +kernel
theorem dX6_colourAt_4 : decode cX6_colourAt 4 = .ok (.getfield 83, 3) := by decide +kernel
theorem dX6_colourAt_7 : decode cX6_colourAt 7 = .ok (.idiv, 1) := by decide +kernel
theorem dX6_colourAt_8 : decode cX6_colourAt 8 = .ok (.imul, 1) := by decide +kernel
theorem dX6_colourAt_9 : decode cX6_colourAt 9 = .ok (.iload_n 3, 1) := by decide +kernel
theorem dX6_colourAt_10 : decode cX6_colourAt 10 = .ok (.iadd, 1) := by decide +kernel
theorem dX6_colourAt_11 : decode cX6_colourAt 11 = .ok (.bipush 8, 2) := by decide +kernel
theorem dX6_colourAt_13 : decode cX6_colourAt 13 = .ok (.imul, 1) := by decide +kernel
theorem dX6_colourAt_14 : decode cX6_colourAt 14 = .ok (.aload_n 0, 1) := by decide +kernel
theorem dX6_colourAt_15 : decode cX6_colourAt 15 = .ok (.getfield 83, 3) := by decide +kernel
theorem dX6_colourAt_18 : decode cX6_colourAt 18 = .ok (.imul, 1) := by decide +kernel
theorem dX6_colourAt_19 : decode cX6_colourAt 19 = .ok (.bipush 8, 2) := by decide +kernel
theorem dX6_colourAt_21 : decode cX6_colourAt 21 = .ok (.iload_n 1, 1) := by decide +kernel
theorem dX6_colourAt_22 : decode cX6_colourAt 22 = .ok (.aload_n 0, 1) := by decide +kernel
theorem dX6_colourAt_23 : decode cX6_colourAt 23 = .ok (.getfield 83, 3) := by decide +kernel
theorem dX6_colourAt_26 : decode cX6_colourAt 26 = .ok (.irem, 1) := by decide +kernel
theorem dX6_colourAt_27 : decode cX6_colourAt 27 = .ok (.imul, 1) := by decide +kernel
theorem dX6_colourAt_28 : decode cX6_colourAt 28 = .ok (.iadd, 1) := by decide +kernel
theorem dX6_colourAt_29 : decode cX6_colourAt 29 = .ok (.iload_n 2, 1) := by decide +kernel
theorem dX6_colourAt_30 : decode cX6_colourAt 30 = .ok (.iadd, 1) := by decide +kernel
theorem dX6_colourAt_31 : decode cX6_colourAt 31 = .ok (.ireturn, 1) := by decide +kernel
def FX6_colourAt (G : GG) (M : DD) (p0 : Option Nat) (p1 : Int32) (p2 : Int32) (p3 : Int32) : Option (DD × Int32) :=
  dr G 4 p0 fun b1 =>
  ltt (M.1 b1 1) fun x2 =>
  chk (¬ x2 = 0) <|
  ltt (p1 / x2) fun x3 =>
  ltt ((((8 : Int32)) * x3)) fun x4 =>
  ltt ((x4 + p3)) fun x5 =>
  ltt ((x5 * ((8 : Int32)))) fun x6 =>
  ltt (M.1 b1 1) fun x7 =>
  ltt ((x6 * x7)) fun x8 =>
  ltt (M.1 b1 1) fun x9 =>
  chk (¬ x9 = 0) <|
  ltt (p1 - p1 / x9 * x9) fun x10 =>
  ltt ((((8 : Int32)) * x10)) fun x11 =>
  ltt ((x8 + x11)) fun x12 =>
  ltt ((x12 + p2)) fun x13 =>
  some (M, x13)
set_option maxHeartbeats 4000000 in
set_option maxRecDepth 100000 in
theorem kX6_colourAt (l : Launch) (D : va_G) (ct : CT) (ad : Nat → Nat) (Z : Nat → Nat) (G : GG) (M : DD) (sz : Nat) (p0 : Option Nat) (p1 : Int32) (p2 : Int32) (p3 : Int32) (y : DD × Int32) (hF : FX6_colourAt G M p0 p1 p2 p3 = some y) : Met l yX6_colourAt wsX6_colourAt ({ frames := 0, cells := 0, slots := 0, locals := 0 }) (va_Pc [va_re ad p0, .int p1, .int p2, .int p3] (kB D ct ad Z G M sz)) (va_Qi (fun (q : Int32) (_ : Unit) => q = y.2) (fun _ t => kE D ct ad G (wA ad G sz) y.1 t) (wA ad G sz)) 0 0 (wA ad G sz) := by
  refine Met.ofW (cc := cX6_colourAt) (maxL := 4) (ret := (some .int)) (by decide) rfl ?_
  intro p e s m args below meth c s₁ B hml hv
  obtain ⟨rfl, hsz, hP, hK, hD0, hZ, hN⟩ := hv
  have hx := B.exec
  have hb := B.bytes
  have hr := B.returns
  have hts := atoms_spec (ws := wsX6_colourAt) B.pre
  have hown : s.vm.findClass RX6 = some m.cls := findClass_of_methodNamed B.named
  have hlocks := B.notSynchronized
  subst hsz
  have hD := wD_self (sz := s.heap.size) hD0
  have hA9 : ∀ q, s.heap.size ≤ q → wA ad G s.heap.size q := fun q h => Or.inr h
  generalize hAe : wA ad G s.heap.size = A at hD hA9 hZ ⊢
  have hS : va_S A s.heap s.heap [] := va_S.rf
  have hl := lv_entry ([va_re ad p0, .int p1, .int p2, .int p3]) (n := 4) (by cases p0 <;> exact Nat.le_of_ble_eq_true rfl)
  rw [lg_entry_eq]
  generalize (lg_sl ([va_re ad p0, .int p1, .int p2, .int p3]) ++ List.replicate (4 - (lg_sl ([va_re ad p0, .int p1, .int p2, .int p3])).length) Slot.unset).toArray = ls at hl ⊢
  have hl : lv_has ls 4 [(0, va_re ad p0), (1, .int p1), (2, .int p2), (3, .int p3)] := by have e9 : lv_args 0 [va_re ad p0, .int p1, .int p2, .int p3] = [(0, va_re ad p0), (1, .int p1), (2, .int p2), (3, .int p3)] := (by cases p0 <;> rfl); rw [e9] at hl; exact hl
  unfold FX6_colourAt at hF
  refine lv_bipush (v := (8 : Int32)) hx hb dX6_colourAt_0 (by decide) ?_
  refine lv_iload_n hx hb dX6_colourAt_2 rfl (lv_at hl 1 rfl) ?_
  refine lv_aloadq_n hx hb dX6_colourAt_3 rfl (lv_at hl 0 rfl) ?_
  obtain ⟨b1, ho1, hc1, hk1, hF⟩ := dr_some hF
  refine W_st (st' := [.ref (ad b1), .int p1, .int (8 : Int32)]) (by rw [va_some ho1]) ?_
  refine va_get (D := D) (ci := 4) (v := .int (M.1 b1 1)) (C := RX4) (T := TX4) (N := 18) hx hb hts (by decide +kernel) hown hK hP b1 (wld_o ct ad G M hc1 hk1 (by decide)) rfl 1 (by decide) (hts (.fieldLink RX6 83 "VideoSuite$Picture" "width" "I") (by decide +kernel)) (fun _ h9 => h9) rfl dX6_colourAt_4 ?_
  obtain ⟨x2, ex2, hF⟩ := ltt_some hF
  refine lv_topi (fun zx2 ezx2 => ?_)
  obtain rfl : x2 = zx2 := ex2.trans ezx2.symm
  obtain ⟨hne, hF⟩ := chk_some hF
  refine lv_idiv hx hb dX6_colourAt_7 hne ?_
  obtain ⟨x3, ex3, hF⟩ := ltt_some hF
  refine lv_topi (fun zx3 ezx3 => ?_)
  obtain rfl : x3 = zx3 := ex3.trans ezx3.symm
  refine lv_imul hx hb dX6_colourAt_8 ?_
  obtain ⟨x4, ex4, hF⟩ := ltt_some hF
  refine lv_topi (fun zx4 ezx4 => ?_)
  obtain rfl : x4 = zx4 := ex4.trans ezx4.symm
  refine lv_iload_n hx hb dX6_colourAt_9 rfl (lv_at hl 3 rfl) ?_
  refine lv_iadd hx hb dX6_colourAt_10 ?_
  obtain ⟨x5, ex5, hF⟩ := ltt_some hF
  refine lv_topi (fun zx5 ezx5 => ?_)
  obtain rfl : x5 = zx5 := ex5.trans ezx5.symm
  refine lv_bipush (v := (8 : Int32)) hx hb dX6_colourAt_11 (by decide) ?_
  refine lv_imul hx hb dX6_colourAt_13 ?_
  obtain ⟨x6, ex6, hF⟩ := ltt_some hF
  refine lv_topi (fun zx6 ezx6 => ?_)
  obtain rfl : x6 = zx6 := ex6.trans ezx6.symm
  refine lv_aloadq_n hx hb dX6_colourAt_14 rfl (lv_at hl 0 rfl) ?_
  refine W_st (st' := [.ref (ad b1), .int x6]) (by rw [va_some ho1]) ?_
  refine va_get (D := D) (ci := 4) (v := .int (M.1 b1 1)) (C := RX4) (T := TX4) (N := 18) hx hb hts (by decide +kernel) hown hK hP b1 (wld_o ct ad G M hc1 hk1 (by decide)) rfl 1 (by decide) (hts (.fieldLink RX6 83 "VideoSuite$Picture" "width" "I") (by decide +kernel)) (fun _ h9 => h9) rfl dX6_colourAt_15 ?_
  obtain ⟨x7, ex7, hF⟩ := ltt_some hF
  refine lv_topi (fun zx7 ezx7 => ?_)
  obtain rfl : x7 = zx7 := ex7.trans ezx7.symm
  refine lv_imul hx hb dX6_colourAt_18 ?_
  obtain ⟨x8, ex8, hF⟩ := ltt_some hF
  refine lv_topi (fun zx8 ezx8 => ?_)
  obtain rfl : x8 = zx8 := ex8.trans ezx8.symm
  refine lv_bipush (v := (8 : Int32)) hx hb dX6_colourAt_19 (by decide) ?_
  refine lv_iload_n hx hb dX6_colourAt_21 rfl (lv_at hl 1 rfl) ?_
  refine lv_aloadq_n hx hb dX6_colourAt_22 rfl (lv_at hl 0 rfl) ?_
  refine W_st (st' := [.ref (ad b1), .int p1, .int (8 : Int32), .int x8]) (by rw [va_some ho1]) ?_
  refine va_get (D := D) (ci := 4) (v := .int (M.1 b1 1)) (C := RX4) (T := TX4) (N := 18) hx hb hts (by decide +kernel) hown hK hP b1 (wld_o ct ad G M hc1 hk1 (by decide)) rfl 1 (by decide) (hts (.fieldLink RX6 83 "VideoSuite$Picture" "width" "I") (by decide +kernel)) (fun _ h9 => h9) rfl dX6_colourAt_23 ?_
  obtain ⟨x9, ex9, hF⟩ := ltt_some hF
  refine lv_topi (fun zx9 ezx9 => ?_)
  obtain rfl : x9 = zx9 := ex9.trans ezx9.symm
  obtain ⟨hne, hF⟩ := chk_some hF
  refine lv_irem hx hb dX6_colourAt_26 hne ?_
  obtain ⟨x10, ex10, hF⟩ := ltt_some hF
  refine lv_topi (fun zx10 ezx10 => ?_)
  obtain rfl : x10 = zx10 := ex10.trans ezx10.symm
  refine lv_imul hx hb dX6_colourAt_27 ?_
  obtain ⟨x11, ex11, hF⟩ := ltt_some hF
  refine lv_topi (fun zx11 ezx11 => ?_)
  obtain rfl : x11 = zx11 := ex11.trans ezx11.symm
  refine lv_iadd hx hb dX6_colourAt_28 ?_
  obtain ⟨x12, ex12, hF⟩ := ltt_some hF
  refine lv_topi (fun zx12 ezx12 => ?_)
  obtain rfl : x12 = zx12 := ex12.trans ezx12.symm
  refine lv_iload_n hx hb dX6_colourAt_29 rfl (lv_at hl 2 rfl) ?_
  refine lv_iadd hx hb dX6_colourAt_30 ?_
  obtain ⟨x13, ex13, hF⟩ := ltt_some hF
  refine lv_topi (fun zx13 ezx13 => ?_)
  obtain rfl : x13 = zx13 := ex13.trans ezx13.symm
  obtain rfl := Option.some.inj hF
  exact W.iret (v := x13) hx hb hr (fun t ht hW => ⟨⟨_, (), rfl, rfl, ⟨by rw [ht]; exact hP, va_K.moved hW.alike hK, hD⟩⟩, hS.F ht⟩) hS.2.2 dX6_colourAt_31
theorem ggX6_colourDifferences_X6_colourAt : GoodIn wsX6_colourDifferences wsX6_colourAt := goodIn_r _ [6, 7, 42, 43, 44, 45, 46, 47, 48, 49, 50, 51, 52, 53, 54, 55, 56, 57, 58, 59] (by decide +kernel) (by decide +kernel)
set_option maxRecDepth 20000 in
theorem gX6_colourDifferences_X6_colourAt : GoodIn wsX6_colourDifferences (va_wsS RX6 206 yX6_colourAt wsX6_colourAt) := goodIn_app (goodIn_of _ (by decide +kernel)) ggX6_colourDifferences_X6_colourAt
theorem dX6_colourDifferences_0 : decode cX6_colourDifferences 0 = .ok (.iconst 0, 1) := by decide +kernel
theorem dX6_colourDifferences_1 : decode cX6_colourDifferences 1 = .ok (.istore 4, 2) := by decide +kernel
theorem dX6_colourDifferences_3 : decode cX6_colourDifferences 3 = .ok (.iconst 0, 1) := by decide +kernel
theorem dX6_colourDifferences_4 : decode cX6_colourDifferences 4 = .ok (.istore 5, 2) := by decide +kernel
theorem dX6_colourDifferences_6 : decode cX6_colourDifferences 6 = .ok (.iload 5, 2) := by decide +kernel
theorem dX6_colourDifferences_8 : decode cX6_colourDifferences 8 = .ok (.sipush 128, 3) := by decide +kernel
theorem dX6_colourDifferences_11 : decode cX6_colourDifferences 11 = .ok (.if_icmp .ge 76, 3) := by decide +kernel
theorem dX6_colourDifferences_14 : decode cX6_colourDifferences 14 = .ok (.iconst 1, 1) := by decide +kernel
theorem dX6_colourDifferences_15 : decode cX6_colourDifferences 15 = .ok (.iload 5, 2) := by decide +kernel
theorem dX6_colourDifferences_17 : decode cX6_colourDifferences 17 = .ok (.bipush 64, 2) := by decide +kernel
theorem dX6_colourDifferences_19 : decode cX6_colourDifferences 19 = .ok (.idiv, 1) := by decide +kernel
theorem dX6_colourDifferences_20 : decode cX6_colourDifferences 20 = .ok (.iadd, 1) := by decide +kernel
theorem dX6_colourDifferences_21 : decode cX6_colourDifferences 21 = .ok (.istore 6, 2) := by decide +kernel
theorem dX6_colourDifferences_23 : decode cX6_colourDifferences 23 = .ok (.aload_n 2, 1) := by decide +kernel
theorem dX6_colourDifferences_24 : decode cX6_colourDifferences 24 = .ok (.iload 6, 2) := by decide +kernel
theorem dX6_colourDifferences_26 : decode cX6_colourDifferences 26 = .ok (.aaload, 1) := by decide +kernel
theorem dX6_colourDifferences_27 : decode cX6_colourDifferences 27 = .ok (.aload_n 1, 1) := by decide +kernel
theorem dX6_colourDifferences_28 : decode cX6_colourDifferences 28 = .ok (.getfield 46, 3) := by decide +kernel
theorem dX6_colourDifferences_31 : decode cX6_colourDifferences 31 = .ok (.iload_n 3, 1) := by decide +kernel
theorem dX6_colourDifferences_32 : decode cX6_colourDifferences 32 = .ok (.iload 5, 2) := by decide +kernel
theorem dX6_colourDifferences_34 : decode cX6_colourDifferences 34 = .ok (.bipush 8, 2) := by decide +kernel
theorem dX6_colourDifferences_36 : decode cX6_colourDifferences 36 = .ok (.irem, 1) := by decide +kernel
theorem dX6_colourDifferences_37 : decode cX6_colourDifferences 37 = .ok (.iload 5, 2) := by decide +kernel
theorem dX6_colourDifferences_39 : decode cX6_colourDifferences 39 = .ok (.bipush 8, 2) := by decide +kernel
theorem dX6_colourDifferences_41 : decode cX6_colourDifferences 41 = .ok (.idiv, 1) := by decide +kernel
theorem dX6_colourDifferences_42 : decode cX6_colourDifferences 42 = .ok (.bipush 8, 2) := by decide +kernel
theorem dX6_colourDifferences_44 : decode cX6_colourDifferences 44 = .ok (.irem, 1) := by decide +kernel
theorem dX6_colourDifferences_45 : decode cX6_colourDifferences 45 = .ok (.invokestatic 206, 3) := by decide +kernel
theorem dX6_colourDifferences_48 : decode cX6_colourDifferences 48 = .ok (.iaload, 1) := by decide +kernel
theorem dX6_colourDifferences_49 : decode cX6_colourDifferences 49 = .ok (.aload_n 0, 1) := by decide +kernel
theorem dX6_colourDifferences_50 : decode cX6_colourDifferences 50 = .ok (.getfield 9, 3) := by decide +kernel
theorem dX6_colourDifferences_53 : decode cX6_colourDifferences 53 = .ok (.sipush 256, 3) := by decide +kernel
theorem dX6_colourDifferences_56 : decode cX6_colourDifferences 56 = .ok (.iload 5, 2) := by decide +kernel
theorem dX6_colourDifferences_58 : decode cX6_colourDifferences 58 = .ok (.iadd, 1) := by decide +kernel
theorem dX6_colourDifferences_59 : decode cX6_colourDifferences 59 = .ok (.iaload, 1) := by decide +kernel
theorem dX6_colourDifferences_60 : decode cX6_colourDifferences 60 = .ok (.isub, 1) := by decide +kernel
theorem dX6_colourDifferences_61 : decode cX6_colourDifferences 61 = .ok (.istore 7, 2) := by decide +kernel
theorem dX6_colourDifferences_63 : decode cX6_colourDifferences 63 = .ok (.iload 4, 2) := by decide +kernel
theorem dX6_colourDifferences_65 : decode cX6_colourDifferences 65 = .ok (.iload 7, 2) := by decide +kernel
theorem dX6_colourDifferences_67 : decode cX6_colourDifferences 67 = .ok (.ifCond .ge 9, 3) := by decide +kernel
theorem dX6_colourDifferences_70 : decode cX6_colourDifferences 70 = .ok (.iload 7, 2) := by decide +kernel
theorem dX6_colourDifferences_72 : decode cX6_colourDifferences 72 = .ok (.ineg, 1) := by decide +kernel
theorem dX6_colourDifferences_73 : decode cX6_colourDifferences 73 = .ok (.goto 5, 3) := by decide +kernel
theorem dX6_colourDifferences_76 : decode cX6_colourDifferences 76 = .ok (.iload 7, 2) := by decide +kernel
theorem dX6_colourDifferences_78 : decode cX6_colourDifferences 78 = .ok (.iadd, 1) := by decide +kernel
theorem dX6_colourDifferences_79 : decode cX6_colourDifferences 79 = .ok (.istore 4, 2) := by decide +kernel
theorem dX6_colourDifferences_81 : decode cX6_colourDifferences 81 = .ok (.iinc 5 1, 3) := by decide +kernel
theorem dX6_colourDifferences_84 : decode cX6_colourDifferences 84 = .ok (.goto (-78), 3) := by decide +kernel
theorem dX6_colourDifferences_87 : decode cX6_colourDifferences 87 = .ok (.iload 4, 2) := by decide +kernel
theorem dX6_colourDifferences_89 : decode cX6_colourDifferences 89 = .ok (.ireturn, 1) := by decide +kernel
def FX6_colourDifferences (G : GG) (M : DD) (a : Nat) (p0 : Option Nat) (p1 : Option Nat) (p2 : Int32) : Option (DD × Int32) :=
  bnd (itr (fun (s2 : Int32 × Int32 × DD) => ((if ((128 : Int32)) ≤ s2.2.1 then (some (.inr (s2.1, s2.2.1, s2.2.2))) else
  (ltt (s2.2.1 / ((64 : Int32))) fun x6 =>
  ltt ((((1 : Int32)) + x6)) fun x7 =>
  dr G 15 p1 fun b8 =>
  chk (¬ (x7 < 0 ∨ G.2.2 b8 ≤ x7.toNatClampNeg)) <|
  dr G 9 p0 fun b9 =>
  ltt (s2.2.1 - s2.2.1 / ((8 : Int32)) * ((8 : Int32))) fun x10 =>
  ltt (s2.2.1 / ((8 : Int32))) fun x11 =>
  ltt (x11 - x11 / ((8 : Int32)) * ((8 : Int32))) fun x12 =>
  bnd (FX6_colourAt G s2.2.2 ((s2.2.2.2 b9 0)) p2 x10 x12) fun y13 =>
  dr G 13 ((s2.2.2.2 b8 x7.toNatClampNeg)) fun b14 =>
  chk (¬ (y13.2 < 0 ∨ G.2.2 b14 ≤ y13.2.toNatClampNeg)) <|
  ltt (y13.1.1 b14 y13.2.toNatClampNeg) fun x15 =>
  ltt ((((256 : Int32)) + s2.2.1)) fun x16 =>
  dr G 13 ((y13.1.2 a 0)) fun b17 =>
  chk (¬ (x16 < 0 ∨ G.2.2 b17 ≤ x16.toNatClampNeg)) <|
  ltt (y13.1.1 b17 x16.toNatClampNeg) fun x18 =>
  ltt ((x15 - x18)) fun x19 =>
  bnd (if ((0 : Int32)) ≤ x19 then (some (x19)) else
  (ltt (-x19) fun x24 =>
  some (x24))) fun (y20 : Int32) =>
  ltt ((s2.1 + y20)) fun x21 =>
  ltt (s2.2.1 + (1 : Int32)) fun x22 =>
  some (.inl (x21, x22, y13.1)))) : Option ((Int32 × Int32 × DD) ⊕ (Int32 × Int32 × DD)))) 1000000 ((0 : Int32), (0 : Int32), M)) fun (y1 : Int32 × Int32 × DD) =>
  some (y1.2.2, y1.1)
set_option maxHeartbeats 4000000 in
set_option maxRecDepth 100000 in
theorem kX6_colourDifferences (l : Launch) (D : va_G) (ct : CT) (ad : Nat → Nat) (Z : Nat → Nat) (G : GG) (M : DD) (sz : Nat) (a : Nat) (p0 : Option Nat) (p1 : Option Nat) (p2 : Int32) (y : DD × Int32) (hc : a < G.1) (hk : G.2.1 a = 6) (hF : FX6_colourDifferences G M a p0 p1 p2 = some y) : Met l yX6_colourDifferences wsX6_colourDifferences ({ frames := 1, cells := 0, slots := 0, locals := 23 }) (va_Pc [.ref (ad a), va_re ad p0, va_re ad p1, .int p2] (kB D ct ad Z G M sz)) (va_Qi (fun (q : Int32) (_ : Unit) => q = y.2) (fun _ t => kE D ct ad G (wA ad G sz) y.1 t) (wA ad G sz)) 0 0 (wA ad G sz) := by
  refine Met.ofW (cc := cX6_colourDifferences) (maxL := 8) (ret := (some .int)) (by decide) rfl ?_
  intro p e s m args below meth c s₁ B hml hv
  obtain ⟨rfl, hsz, hP, hK, hD0, hZ, hN⟩ := hv
  have hx := B.exec
  have hb := B.bytes
  have hr := B.returns
  have hts := atoms_spec (ws := wsX6_colourDifferences) B.pre
  have hown : s.vm.findClass RX6 = some m.cls := findClass_of_methodNamed B.named
  have hlocks := B.notSynchronized
  subst hsz
  have hD := wD_self (sz := s.heap.size) hD0
  have hA9 : ∀ q, s.heap.size ≤ q → wA ad G s.heap.size q := fun q h => Or.inr h
  generalize hAe : wA ad G s.heap.size = A at hD hA9 hZ ⊢
  have hS : va_S A s.heap s.heap [] := va_S.rf
  have hl := lv_entry ([.ref (ad a), va_re ad p0, va_re ad p1, .int p2]) (n := 8) (by cases p0 <;> cases p1 <;> exact Nat.le_of_ble_eq_true rfl)
  rw [lg_entry_eq]
  generalize (lg_sl ([.ref (ad a), va_re ad p0, va_re ad p1, .int p2]) ++ List.replicate (8 - (lg_sl ([.ref (ad a), va_re ad p0, va_re ad p1, .int p2])).length) Slot.unset).toArray = ls at hl ⊢
  have hl : lv_has ls 8 [(0, .ref (ad a)), (1, va_re ad p0), (2, va_re ad p1), (3, .int p2)] := by have e9 : lv_args 0 [.ref (ad a), va_re ad p0, va_re ad p1, .int p2] = [(0, .ref (ad a)), (1, va_re ad p0), (2, va_re ad p1), (3, .int p2)] := (by cases p0 <;> cases p1 <;> rfl); rw [e9] at hl; exact hl
  unfold FX6_colourDifferences at hF
  refine lv_iconst (v := (0 : Int32)) hx hb dX6_colourDifferences_0 (by decide) ?_
  refine lv_istore (lv' := [(4, .int (0 : Int32)), (0, .ref (ad a)), (1, va_re ad p0), (2, va_re ad p1), (3, .int p2)]) hx hb dX6_colourDifferences_1 hl (by decide) rfl (fun ls hl => ?_)
  refine lv_iconst (v := (0 : Int32)) hx hb dX6_colourDifferences_3 (by decide) ?_
  refine lv_istore (lv' := [(5, .int (0 : Int32)), (4, .int (0 : Int32)), (0, .ref (ad a)), (1, va_re ad p0), (2, va_re ad p1), (3, .int p2)]) hx hb dX6_colourDifferences_4 hl (by decide) rfl (fun ls hl => ?_)
  obtain ⟨y1, hy1, hF⟩ := bnd_some hF
  have K1 : ∀ (H : Heap) (locs : List Loc) (ls : Array Slot), va_P D classes (wld ct ad G y1.2.2) H → va_D A (wld ct ad G y1.2.2) → va_S A s.heap H locs → lv_has ls 8 [(5, .int y1.2.1), (4, .int y1.1), (0, .ref (ad a)), (1, va_re ad p0), (2, va_re ad p1), (3, .int p2)] → W p l e (headSpec wsX6_colourDifferences ({ frames := 1, cells := 0, slots := 0, locals := 23 })).room s m ([.ref (ad a), va_re ad p0, va_re ad p1, .int p2] : List Value).toArray below meth c H locs 0 0 (MQ below (va_Qi (fun (q : Int32) (_ : Unit) => q = y.2) (fun _ t => kE D ct ad G A y.1 t) A) ([.ref (ad a), va_re ad p0, va_re ad p1, .int p2] : List Value).toArray s 0 0 A) (F0 m 87 ls []) := by
    intro H locs ls hP hD hS hl
    refine lv_iload hx hb dX6_colourDifferences_87 (lv_at hl 1 rfl) ?_
    obtain rfl := Option.some.inj hF
    exact W.iret (v := y1.1) hx hb hr (fun t ht hW => ⟨⟨_, (), rfl, rfl, ⟨by rw [ht]; exact hP, va_K.moved hW.alike hK, hD⟩⟩, hS.F ht⟩) hS.2.2 dX6_colourDifferences_89
  clear hF
  refine itr_rule (fun (s2 : Int32 × Int32 × DD) => ∀ (H : Heap) (locs : List Loc) (ls : Array Slot), va_P D classes (wld ct ad G s2.2.2) H → va_D A (wld ct ad G s2.2.2) → va_S A s.heap H locs → lv_has ls 8 [(5, .int s2.2.1), (4, .int s2.1), (0, .ref (ad a)), (1, va_re ad p0), (2, va_re ad p1), (3, .int p2)] → W p l e (headSpec wsX6_colourDifferences ({ frames := 1, cells := 0, slots := 0, locals := 23 })).room s m ([.ref (ad a), va_re ad p0, va_re ad p1, .int p2] : List Value).toArray below meth c H locs 0 0 (MQ below (va_Qi (fun (q : Int32) (_ : Unit) => q = y.2) (fun _ t => kE D ct ad G A y.1 t) A) ([.ref (ad a), va_re ad p0, va_re ad p1, .int p2] : List Value).toArray s 0 0 A) (F0 m 6 ls [])) ?_ _ _ hy1 _ _ _ hP hD hS (lv_sub hl [0, 1, 2, 3, 4, 5] rfl)
  rintro s2 ⟨z4, hF, hwz4⟩ H locs ls hP hD hS hl
  try dsimp only at hF
  refine lv_iload hx hb dX6_colourDifferences_6 (lv_at hl 0 rfl) ?_
  refine lv_sipush (v := (128 : Int32)) hx hb dX6_colourDifferences_8 (by decide) ?_
  refine lv_icmp_ge (tgt := 87) hx hb dX6_colourDifferences_11 (by decide) (fun c5 => ?_) (fun c5 => ?_)
  · rw [if_pos c5] at hF
    obtain rfl := Option.some.inj hF
    subst hwz4
    exact K1 _ _ _ hP hD hS (lv_sub hl [0, 1, 2, 3, 4, 5] rfl)
  · rw [if_neg c5] at hF
    refine lv_iconst (v := (1 : Int32)) hx hb dX6_colourDifferences_14 (by decide) ?_
    refine lv_iload hx hb dX6_colourDifferences_15 (lv_at hl 0 rfl) ?_
    refine lv_bipush (v := (64 : Int32)) hx hb dX6_colourDifferences_17 (by decide) ?_
    refine lv_idiv hx hb dX6_colourDifferences_19 (by decide) ?_
    obtain ⟨x6, ex6, hF⟩ := ltt_some hF
    refine lv_topi (fun zx6 ezx6 => ?_)
    obtain rfl : x6 = zx6 := ex6.trans ezx6.symm
    refine lv_iadd hx hb dX6_colourDifferences_20 ?_
    obtain ⟨x7, ex7, hF⟩ := ltt_some hF
    refine lv_topi (fun zx7 ezx7 => ?_)
    obtain rfl : x7 = zx7 := ex7.trans ezx7.symm
    refine lv_istore (lv' := [(6, .int x7), (5, .int s2.2.1), (4, .int s2.1), (0, .ref (ad a)), (1, va_re ad p0), (2, va_re ad p1), (3, .int p2)]) hx hb dX6_colourDifferences_21 hl (by decide) rfl (fun ls hl => ?_)
    refine lv_aloadq_n hx hb dX6_colourDifferences_23 rfl (lv_at hl 5 rfl) ?_
    refine lv_iload hx hb dX6_colourDifferences_24 (lv_at hl 0 rfl) ?_
    obtain ⟨b8, ho8, hc8, hk8, hF⟩ := dr_some hF
    refine W_st (st' := [.int x7, .ref (ad b8)]) (by rw [va_some ho8]) ?_
    obtain ⟨hvc, hF⟩ := chk_some hF
    refine ld_g hx hb hK hP hc8 hk8 hvc dX6_colourDifferences_26 ?_
    refine lv_aloadq_n hx hb dX6_colourDifferences_27 rfl (lv_at hl 4 rfl) ?_
    obtain ⟨b9, ho9, hc9, hk9, hF⟩ := dr_some hF
    refine W_st (st' := [.ref (ad b9), va_re ad (s2.2.2.2 b8 x7.toNatClampNeg)]) (by rw [va_some ho9]) ?_
    refine va_get (D := D) (ci := 9) (v := va_re ad (s2.2.2.2 b9 0)) (C := RX9) (T := TX9) (N := 20) hx hb hts (by decide +kernel) hown hK hP b9 (wld_o ct ad G s2.2.2 hc9 hk9 (by decide)) rfl 0 (by decide) (hts (.fieldLink RX6 46 "VideoSuite$Work" "pic" "LVideoSuite$Picture;") (by decide +kernel)) (fun _ h9 => h9) rfl dX6_colourDifferences_28 ?_
    refine lv_iload_n hx hb dX6_colourDifferences_31 rfl (lv_at hl 6 rfl) ?_
    refine lv_iload hx hb dX6_colourDifferences_32 (lv_at hl 1 rfl) ?_
    refine lv_bipush (v := (8 : Int32)) hx hb dX6_colourDifferences_34 (by decide) ?_
    refine lv_irem hx hb dX6_colourDifferences_36 (by decide) ?_
    obtain ⟨x10, ex10, hF⟩ := ltt_some hF
    refine lv_topi (fun zx10 ezx10 => ?_)
    obtain rfl : x10 = zx10 := ex10.trans ezx10.symm
    refine lv_iload hx hb dX6_colourDifferences_37 (lv_at hl 1 rfl) ?_
    refine lv_bipush (v := (8 : Int32)) hx hb dX6_colourDifferences_39 (by decide) ?_
    refine lv_idiv hx hb dX6_colourDifferences_41 (by decide) ?_
    obtain ⟨x11, ex11, hF⟩ := ltt_some hF
    refine lv_topi (fun zx11 ezx11 => ?_)
    obtain rfl : x11 = zx11 := ex11.trans ezx11.symm
    refine lv_bipush (v := (8 : Int32)) hx hb dX6_colourDifferences_42 (by decide) ?_
    refine lv_irem hx hb dX6_colourDifferences_44 (by decide) ?_
    obtain ⟨x12, ex12, hF⟩ := ltt_some hF
    refine lv_topi (fun zx12 ezx12 => ?_)
    obtain rfl : x12 = zx12 := ex12.trans ezx12.symm
    obtain ⟨y13, hy13, hF⟩ := bnd_some hF
    have hf9 := wA_in hD hA9 hS
    refine va_calli (va_runS (As := [va_re ad (s2.2.2.2 b9 0), .int p2, .int x10, .int x12]) (rest := [va_re ad (s2.2.2.2 b8 x7.toNatClampNeg)]) ⟨hx, hb, hml, hown, hts⟩ (kX6_colourAt l D ct ad Z G s2.2.2 H.size ((s2.2.2.2 b9 0)) p2 x10 x12 y13 hy13) (va_cwS 4 hts gX6_colourDifferences_X6_colourAt rfl rfl rfl (by decide +kernel) ⟨Nat.le_of_ble_eq_true rfl, Nat.le_of_ble_eq_true rfl⟩) ⟨fun a U g mk q => by obtain ⟨q0, q1, qP, qK, qD, qZ, qN⟩ := q; exact ⟨q0, q1, qP, va_K.moved (u := U) (U := U.calling g mk a) (Vm.Alike.refl U.vm) qK, qD, sF.moved (u := U) (U := U.calling g mk a) (Vm.Alike.refl U.vm) qZ, nF.same rfl qN⟩, fun U hU hW => ⟨rfl, by rw [hU], by rw [hU]; exact hP, va_K.moved hW.alike hK, hD.weaken (fun _ _ _ _ => trivial), by rw [hU]; exact ((hZ.kept hS.2.1).narrow hf9).moved hW.alike, hN.warm hW⟩⟩ rfl rfl hl.1 rfl (lv_room (by simp only [List.map, va_re_cat]; exact Nat.le_of_ble_eq_true rfl)) dX6_colourDifferences_45 ⟨(Nat.zero_le _), (Nat.zero_le _)⟩) hS (fun q _ h => hf9 q h) hf9 (fun r u t H locs ht hvm hw hB hz1 hk1 hS => ?_)
    obtain ⟨hP, hK9, hD9⟩ := hB
    rw [ht] at hP
    try dsimp only at hw
    subst hw
    have hD := hD9.weaken (fun _ q _ h => hf9 q.1 h)
    obtain ⟨b14, ho14, hc14, hk14, hF⟩ := dr_some hF
    refine W_st (st' := [.int y13.2, .ref (ad b14)]) (by rw [va_some ho14]) ?_
    obtain ⟨hvc, hF⟩ := chk_some hF
    refine va_iald hx hb hK hP b14 1 (wld_i ct ad G y13.1 hc14 hk14) rfl hvc dX6_colourDifferences_48 ?_
    obtain ⟨x15, ex15, hF⟩ := ltt_some hF
    refine lv_topi (fun zx15 ezx15 => ?_)
    obtain rfl : x15 = zx15 := ex15.trans ezx15.symm
    refine lv_aload_n hx hb dX6_colourDifferences_49 rfl (lv_at hl 3 rfl) ?_
    refine va_get (D := D) (ci := 6) (v := va_re ad (y13.1.2 a 0)) (C := RX6) (T := TX6) (N := 14) hx hb hts (by decide +kernel) hown hK hP a (wld_o ct ad G y13.1 hc hk (by decide)) rfl 0 (by decide) (hts (.fieldLink RX6 9 "VideoSuite$Samples" "guess" "[I") (by decide +kernel)) (fun _ h9 => h9) rfl dX6_colourDifferences_50 ?_
    refine lv_sipush (v := (256 : Int32)) hx hb dX6_colourDifferences_53 (by decide) ?_
    refine lv_iload hx hb dX6_colourDifferences_56 (lv_at hl 1 rfl) ?_
    refine lv_iadd hx hb dX6_colourDifferences_58 ?_
    obtain ⟨x16, ex16, hF⟩ := ltt_some hF
    refine lv_topi (fun zx16 ezx16 => ?_)
    obtain rfl : x16 = zx16 := ex16.trans ezx16.symm
    obtain ⟨b17, ho17, hc17, hk17, hF⟩ := dr_some hF
    refine W_st (st' := [.int x16, .ref (ad b17), .int x15]) (by rw [va_some ho17]) ?_
    obtain ⟨hvc, hF⟩ := chk_some hF
    refine va_iald hx hb hK hP b17 1 (wld_i ct ad G y13.1 hc17 hk17) rfl hvc dX6_colourDifferences_59 ?_
    obtain ⟨x18, ex18, hF⟩ := ltt_some hF
    refine lv_topi (fun zx18 ezx18 => ?_)
    obtain rfl : x18 = zx18 := ex18.trans ezx18.symm
    refine lv_isub hx hb dX6_colourDifferences_60 ?_
    obtain ⟨x19, ex19, hF⟩ := ltt_some hF
    refine lv_topi (fun zx19 ezx19 => ?_)
    obtain rfl : x19 = zx19 := ex19.trans ezx19.symm
    refine lv_istore (lv' := [(7, .int x19), (6, .int x7), (5, .int s2.2.1), (4, .int s2.1), (0, .ref (ad a)), (1, va_re ad p0), (2, va_re ad p1), (3, .int p2)]) hx hb dX6_colourDifferences_61 hl (by decide) rfl (fun ls hl => ?_)
    refine lv_iload hx hb dX6_colourDifferences_63 (lv_at hl 3 rfl) ?_
    refine lv_iload hx hb dX6_colourDifferences_65 (lv_at hl 0 rfl) ?_
    obtain ⟨y20, hy20, hF⟩ := bnd_some hF
    have J20 : ∀ (H : Heap) (locs : List Loc) (ls : Array Slot), va_P D classes (wld ct ad G y13.1) H → va_D A (wld ct ad G y13.1) → va_S A s.heap H locs → lv_has ls 8 [(7, .int x19), (6, .int x7), (5, .int s2.2.1), (4, .int s2.1), (0, .ref (ad a)), (1, va_re ad p0), (2, va_re ad p1), (3, .int p2)] → W p l e (headSpec wsX6_colourDifferences ({ frames := 1, cells := 0, slots := 0, locals := 23 })).room s m ([.ref (ad a), va_re ad p0, va_re ad p1, .int p2] : List Value).toArray below meth c H locs 0 0 (MQ below (va_Qi (fun (q : Int32) (_ : Unit) => q = y.2) (fun _ t => kE D ct ad G A y.1 t) A) ([.ref (ad a), va_re ad p0, va_re ad p1, .int p2] : List Value).toArray s 0 0 A) (F0 m 78 ls [.int y20, .int s2.1]) := by
      intro H locs ls hP hD hS hl
      refine lv_iadd hx hb dX6_colourDifferences_78 ?_
      obtain ⟨x21, ex21, hF⟩ := ltt_some hF
      refine lv_topi (fun zx21 ezx21 => ?_)
      obtain rfl : x21 = zx21 := ex21.trans ezx21.symm
      refine lv_istore (lv' := [(4, .int x21), (7, .int x19), (6, .int x7), (5, .int s2.2.1), (0, .ref (ad a)), (1, va_re ad p0), (2, va_re ad p1), (3, .int p2)]) hx hb dX6_colourDifferences_79 hl (by decide) rfl (fun ls hl => ?_)
      obtain ⟨x22, ex22, hF⟩ := ltt_some hF
      refine lv_iinc (v := x22) (lv' := [(5, .int x22), (4, .int x21), (7, .int x19), (6, .int x7), (0, .ref (ad a)), (1, va_re ad p0), (2, va_re ad p1), (3, .int p2)]) hx hb dX6_colourDifferences_81 hl (k := 3) rfl (by rw [ex22]; rfl) (by decide) rfl (fun ls hl => ?_)
      refine lv_goto (tgt := 6) hx hb dX6_colourDifferences_84 (by decide) ?_
      obtain rfl := Option.some.inj hF
      exact hwz4 _ _ _ hP hD hS (lv_sub hl [0, 1, 4, 5, 6, 7] rfl)
    clear hF
    have hF := hy20
    clear hy20
    refine lv_if_ge (tgt := 76) hx hb dX6_colourDifferences_67 (by decide) (fun c23 => ?_) (fun c23 => ?_)
    · rw [if_pos c23] at hF
      refine lv_iload hx hb dX6_colourDifferences_76 (lv_at hl 0 rfl) ?_
      obtain rfl := Option.some.inj hF
      exact J20 _ _ _ hP hD hS (lv_sub hl [0, 1, 2, 3, 4, 5, 6, 7] rfl)
    · rw [if_neg c23] at hF
      refine lv_iload hx hb dX6_colourDifferences_70 (lv_at hl 0 rfl) ?_
      refine lv_ineg hx hb dX6_colourDifferences_72 ?_
      obtain ⟨x24, ex24, hF⟩ := ltt_some hF
      refine lv_topi (fun zx24 ezx24 => ?_)
      obtain rfl : x24 = zx24 := ex24.trans ezx24.symm
      refine lv_goto (tgt := 78) hx hb dX6_colourDifferences_73 (by decide) ?_
      obtain rfl := Option.some.inj hF
      exact J20 _ _ _ hP hD hS (lv_sub hl [0, 1, 2, 3, 4, 5, 6, 7] rfl)
theorem ggX6_colourStep_X11_clamp : GoodIn wsX6_colourStep wsX11_clamp := goodIn_r _ [4] (by decide +kernel) (by decide +kernel)
set_option maxRecDepth 20000 in
theorem gX6_colourStep_X11_clamp_n39 : GoodIn wsX6_colourStep (wsX11_clamp) := ggX6_colourStep_X11_clamp
theorem dX6_colourStep_0 : decode cX6_colourStep 0 = .ok (.iconst 0, 1) := by decide +kernel
theorem dX6_colourStep_1 : decode cX6_colourStep 1 = .ok (.bipush 51, 2) := by decide +kernel
theorem dX6_colourStep_3 : decode cX6_colourStep 3 = .ok (.iload_n 0, 1) := by decide +kernel
theorem dX6_colourStep_4 : decode cX6_colourStep 4 = .ok (.iload_n 1, 1) := by decide +kernel
theorem dX6_colourStep_5 : decode cX6_colourStep 5 = .ok (.iadd, 1) := by decide +kernel
theorem dX6_colourStep_6 : decode cX6_colourStep 6 = .ok (.invokestatic 39, 3) := by decide +kernel
theorem dX6_colourStep_9 : decode cX6_colourStep 9 = .ok (.istore_n 2, 1) := by decide +kernel
theorem dX6_colourStep_10 : decode cX6_colourStep 10 = .ok (.iload_n 2, 1) := by decide +kernel
theorem dX6_colourStep_11 : decode cX6_colourStep 11 = .ok (.bipush 30, 2) := by decide +kernel
theorem dX6_colourStep_13 : decode cX6_colourStep 13 = .ok (.if_icmp .ge 7, 3) := by decide +kernel
theorem dX6_colourStep_16 : decode cX6_colourStep 16 = .ok (.iload_n 2, 1) := by decide +kernel
theorem dX6_colourStep_17 : decode cX6_colourStep 17 = .ok (.goto 11, 3) := by decide +kernel
theorem dX6_colourStep_20 : decode cX6_colourStep 20 = .ok (.getstatic 43, 3) := by decide +kernel
theorem dX6_colourStep_23 : decode cX6_colourStep 23 = .ok (.iload_n 2, 1) := by decide +kernel
theorem dX6_colourStep_24 : decode cX6_colourStep 24 = .ok (.bipush 30, 2) := by decide +kernel
theorem dX6_colourStep_26 : decode cX6_colourStep 26 = .ok (.isub, 1) := by decide +kernel
theorem dX6_colourStep_27 : decode cX6_colourStep 27 = .ok (.iaload, 1) := by decide +kernel
theorem dX6_colourStep_28 : decode cX6_colourStep 28 = .ok (.ireturn, 1) := by decide +kernel
def FX6_colourStep (G : GG) (M : DD) (p0 : Int32) (p1 : Int32) : Option (DD × Int32) :=
  ltt ((p0 + p1)) fun x1 =>
  bnd (FX11_clamp G M ((0 : Int32)) ((51 : Int32)) x1) fun y2 =>
  bnd (if ((30 : Int32)) ≤ y2.2 then (ltt ((y2.2 - ((30 : Int32)))) fun x5 =>
  chk (¬ (x5 < 0 ∨ 22 ≤ x5.toNatClampNeg)) <|
  ltt ((sT 11).getD x5.toNatClampNeg 0) fun x6 =>
  some (x6)) else
  (some (y2.2))) fun (y3 : Int32) =>
  some (y2.1, y3)
set_option maxHeartbeats 4000000 in
set_option maxRecDepth 100000 in
theorem kX6_colourStep (l : Launch) (D : va_G) (ct : CT) (ad : Nat → Nat) (Z : Nat → Nat) (G : GG) (M : DD) (sz : Nat) (p0 : Int32) (p1 : Int32) (y : DD × Int32) (hF : FX6_colourStep G M p0 p1 = some y) : Met l yX6_colourStep wsX6_colourStep ({ frames := 1, cells := 0, slots := 0, locals := 22 }) (va_Pc [.int p0, .int p1] (kB D ct ad Z G M sz)) (va_Qi (fun (q : Int32) (_ : Unit) => q = y.2) (fun _ t => kE D ct ad G (wA ad G sz) y.1 t) (wA ad G sz)) 0 0 (wA ad G sz) := by
  refine Met.ofW (cc := cX6_colourStep) (maxL := 3) (ret := (some .int)) (by decide) rfl ?_
  intro p e s m args below meth c s₁ B hml hv
  obtain ⟨rfl, hsz, hP, hK, hD0, hZ, hN⟩ := hv
  have hx := B.exec
  have hb := B.bytes
  have hr := B.returns
  have hts := atoms_spec (ws := wsX6_colourStep) B.pre
  have hown : s.vm.findClass RX6 = some m.cls := findClass_of_methodNamed B.named
  have hlocks := B.notSynchronized
  subst hsz
  have hD := wD_self (sz := s.heap.size) hD0
  have hA9 : ∀ q, s.heap.size ≤ q → wA ad G s.heap.size q := fun q h => Or.inr h
  generalize hAe : wA ad G s.heap.size = A at hD hA9 hZ ⊢
  have hS : va_S A s.heap s.heap [] := va_S.rf
  have hl := lv_entry ([.int p0, .int p1]) (n := 3) (Nat.le_of_ble_eq_true rfl)
  rw [lg_entry_eq]
  generalize (lg_sl ([.int p0, .int p1]) ++ List.replicate (3 - (lg_sl ([.int p0, .int p1])).length) Slot.unset).toArray = ls at hl ⊢
  have hl : lv_has ls 3 [(0, .int p0), (1, .int p1)] := hl
  unfold FX6_colourStep at hF
  refine lv_iconst (v := (0 : Int32)) hx hb dX6_colourStep_0 (by decide) ?_
  refine lv_bipush (v := (51 : Int32)) hx hb dX6_colourStep_1 (by decide) ?_
  refine lv_iload_n hx hb dX6_colourStep_3 rfl (lv_at hl 0 rfl) ?_
  refine lv_iload_n hx hb dX6_colourStep_4 rfl (lv_at hl 1 rfl) ?_
  refine lv_iadd hx hb dX6_colourStep_5 ?_
  obtain ⟨x1, ex1, hF⟩ := ltt_some hF
  refine lv_topi (fun zx1 ezx1 => ?_)
  obtain rfl : x1 = zx1 := ex1.trans ezx1.symm
  obtain ⟨y2, hy2, hF⟩ := bnd_some hF
  have hf9 := wA_in hD hA9 hS
  refine va_calli (va_runSN (As := [.int (0 : Int32), .int (51 : Int32), .int x1]) (rest := []) ⟨hx, hb, hml, hown, hts⟩ (kX11_clamp l D ct ad Z G M s.heap.size ((0 : Int32)) ((51 : Int32)) x1 y2 hy2) ⟨va_cnB 3 hts gX6_colourStep_X11_clamp_n39 rfl rfl rfl (hN.1 (RX6, 39, yX11_clamp, RX11) (List.mem_of_getElem? (i := 20) rfl)) (hts (.initialized RX11) (by decide +kernel)) (by decide +kernel) ⟨Nat.le_of_ble_eq_true rfl, Nat.le_of_ble_eq_true rfl⟩, hts (.static yX11_clamp) (by decide +kernel), trivial⟩ ⟨fun a U g mk q => by obtain ⟨q0, q1, qP, qK, qD, qZ, qN⟩ := q; exact ⟨q0, q1, qP, va_K.moved (u := U) (U := U.calling g mk a) (Vm.Alike.refl U.vm) qK, qD, sF.moved (u := U) (U := U.calling g mk a) (Vm.Alike.refl U.vm) qZ, nF.same rfl qN⟩, fun U hU hW => ⟨rfl, by rw [hU], by rw [hU]; exact hP, va_K.moved hW.alike hK, hD.weaken (fun _ _ _ _ => trivial), by rw [hU]; exact ((hZ.kept hS.2.1).narrow hf9).moved hW.alike, hN.warm hW⟩⟩ rfl rfl hl.1 rfl (lv_room (Nat.le_of_ble_eq_true rfl)) dX6_colourStep_6 ⟨(Nat.zero_le _), (Nat.zero_le _)⟩) hS (fun q _ h => hf9 q h) hf9 (fun r u t H locs ht hvm hw hB hz1 hk1 hS => ?_)
  obtain ⟨hP, hK9, hD9⟩ := hB
  rw [ht] at hP
  try dsimp only at hw
  subst hw
  have hD := hD9.weaken (fun _ q _ h => hf9 q.1 h)
  refine lv_istore_n (lv' := [(2, .int y2.2), (0, .int p0), (1, .int p1)]) hx hb dX6_colourStep_9 rfl hl (by decide) rfl (fun ls hl => ?_)
  refine lv_iload_n hx hb dX6_colourStep_10 rfl (lv_at hl 0 rfl) ?_
  refine lv_bipush (v := (30 : Int32)) hx hb dX6_colourStep_11 (by decide) ?_
  obtain ⟨y3, hy3, hF⟩ := bnd_some hF
  have J3 : ∀ (H : Heap) (locs : List Loc) (ls : Array Slot), va_P D classes (wld ct ad G y2.1) H → va_D A (wld ct ad G y2.1) → va_S A s.heap H locs → lv_has ls 3 [(2, .int y2.2), (0, .int p0), (1, .int p1)] → W p l e (headSpec wsX6_colourStep ({ frames := 1, cells := 0, slots := 0, locals := 22 })).room s m ([.int p0, .int p1] : List Value).toArray below meth c H locs 0 0 (MQ below (va_Qi (fun (q : Int32) (_ : Unit) => q = y.2) (fun _ t => kE D ct ad G A y.1 t) A) ([.int p0, .int p1] : List Value).toArray s 0 0 A) (F0 m 28 ls [.int y3]) := by
    intro H locs ls hP hD hS hl
    obtain rfl := Option.some.inj hF
    exact W.iret (v := y3) hx hb hr (fun t ht hW => ⟨⟨_, (), rfl, rfl, ⟨by rw [ht]; exact hP, va_K.moved hW.alike hK, hD⟩⟩, hS.F ht⟩) hS.2.2 dX6_colourStep_28
  clear hF
  have hF := hy3
  clear hy3
  refine lv_icmp_ge (tgt := 20) hx hb dX6_colourStep_13 (by decide) (fun c4 => ?_) (fun c4 => ?_)
  · rw [if_pos c4] at hF
    refine va_gets hx hb (hZ.1 11 (by decide)).1 hS hown (hts (.fieldLink RX6 43 "VideoSuite$Samples" "COLOUR_STEP" "[I") (by decide +kernel)) (fun _ h => h) dX6_colourStep_20 ?_
    refine lv_iload_n hx hb dX6_colourStep_23 rfl (lv_at hl 0 rfl) ?_
    refine lv_bipush (v := (30 : Int32)) hx hb dX6_colourStep_24 (by decide) ?_
    refine lv_isub hx hb dX6_colourStep_26 ?_
    obtain ⟨x5, ex5, hF⟩ := ltt_some hF
    refine lv_topi (fun zx5 ezx5 => ?_)
    obtain rfl : x5 = zx5 := ex5.trans ezx5.symm
    obtain ⟨hvc, hF⟩ := chk_some hF
    refine va_ti (v := .int ((sT 11).getD x5.toNatClampNeg 0)) hx hb (hZ.1 11 (by decide)).2 hS hvc rfl dX6_colourStep_27 ?_
    obtain ⟨x6, ex6, hF⟩ := ltt_some hF
    refine lv_topi (fun zx6 ezx6 => ?_)
    obtain rfl : x6 = zx6 := ex6.trans ezx6.symm
    obtain rfl := Option.some.inj hF
    exact J3 _ _ _ hP hD hS (lv_sub hl [0, 1, 2] rfl)
  · rw [if_neg c4] at hF
    refine lv_iload_n hx hb dX6_colourStep_16 rfl (lv_at hl 0 rfl) ?_
    refine lv_goto (tgt := 28) hx hb dX6_colourStep_17 (by decide) ?_
    obtain rfl := Option.some.inj hF
    exact J3 _ _ _ hP hD hS (lv_sub hl [0, 1, 2] rfl)
theorem dX6_fillPlane_0 : decode cX6_fillPlane 0 = .ok (.iload_n 2, 1) := by decide +kernel
theorem dX6_fillPlane_1 : decode cX6_fillPlane 1 = .ok (.iconst 2, 1) := by decide +kernel
theorem dX6_fillPlane_2 : decode cX6_fillPlane 2 = .ok (.idiv, 1) := by decide +kernel
theorem dX6_fillPlane_3 : decode cX6_fillPlane 3 = .ok (.istore 4, 2) := by decide +kernel
theorem dX6_fillPlane_5 : decode cX6_fillPlane 5 = .ok (.iconst 0, 1) := by decide +kernel
theorem dX6_fillPlane_6 : decode cX6_fillPlane 6 = .ok (.istore 5, 2) := by decide +kernel
theorem dX6_fillPlane_8 : decode cX6_fillPlane 8 = .ok (.iconst 0, 1) := by decide +kernel
theorem dX6_fillPlane_9 : decode cX6_fillPlane 9 = .ok (.istore 6, 2) := by decide +kernel
theorem dX6_fillPlane_11 : decode cX6_fillPlane 11 = .ok (.iconst 1, 1) := by decide +kernel
theorem dX6_fillPlane_12 : decode cX6_fillPlane 12 = .ok (.istore 7, 2) := by decide +kernel
theorem dX6_fillPlane_14 : decode cX6_fillPlane 14 = .ok (.iload 7, 2) := by decide +kernel
theorem dX6_fillPlane_16 : decode cX6_fillPlane 16 = .ok (.iload 4, 2) := by decide +kernel
theorem dX6_fillPlane_18 : decode cX6_fillPlane 18 = .ok (.if_icmp .gt 75, 3) := by decide +kernel
theorem dX6_fillPlane_21 : decode cX6_fillPlane 21 = .ok (.iload 5, 2) := by decide +kernel
theorem dX6_fillPlane_23 : decode cX6_fillPlane 23 = .ok (.iload 7, 2) := by decide +kernel
theorem dX6_fillPlane_25 : decode cX6_fillPlane 25 = .ok (.aload_n 0, 1) := by decide +kernel
theorem dX6_fillPlane_26 : decode cX6_fillPlane 26 = .ok (.getfield 36, 3) := by decide +kernel
theorem dX6_fillPlane_29 : decode cX6_fillPlane 29 = .ok (.iload 4, 2) := by decide +kernel
theorem dX6_fillPlane_31 : decode cX6_fillPlane 31 = .ok (.iload 7, 2) := by decide +kernel
theorem dX6_fillPlane_33 : decode cX6_fillPlane 33 = .ok (.iadd, 1) := by decide +kernel
theorem dX6_fillPlane_34 : decode cX6_fillPlane 34 = .ok (.iaload, 1) := by decide +kernel
theorem dX6_fillPlane_35 : decode cX6_fillPlane 35 = .ok (.aload_n 0, 1) := by decide +kernel
theorem dX6_fillPlane_36 : decode cX6_fillPlane 36 = .ok (.getfield 36, 3) := by decide +kernel
theorem dX6_fillPlane_39 : decode cX6_fillPlane 39 = .ok (.iload 4, 2) := by decide +kernel
theorem dX6_fillPlane_41 : decode cX6_fillPlane 41 = .ok (.iload 7, 2) := by decide +kernel
theorem dX6_fillPlane_43 : decode cX6_fillPlane 43 = .ok (.isub, 1) := by decide +kernel
theorem dX6_fillPlane_44 : decode cX6_fillPlane 44 = .ok (.iaload, 1) := by decide +kernel
theorem dX6_fillPlane_45 : decode cX6_fillPlane 45 = .ok (.isub, 1) := by decide +kernel
theorem dX6_fillPlane_46 : decode cX6_fillPlane 46 = .ok (.imul, 1) := by decide +kernel
theorem dX6_fillPlane_47 : decode cX6_fillPlane 47 = .ok (.iadd, 1) := by decide +kernel
theorem dX6_fillPlane_48 : decode cX6_fillPlane 48 = .ok (.istore 5, 2) := by decide +kernel
theorem dX6_fillPlane_50 : decode cX6_fillPlane 50 = .ok (.iload 6, 2) := by decide +kernel
theorem dX6_fillPlane_52 : decode cX6_fillPlane 52 = .ok (.iload 7, 2) := by decide +kernel
theorem dX6_fillPlane_54 : decode cX6_fillPlane 54 = .ok (.aload_n 0, 1) := by decide +kernel
theorem dX6_fillPlane_55 : decode cX6_fillPlane 55 = .ok (.getfield 36, 3) := by decide +kernel
theorem dX6_fillPlane_58 : decode cX6_fillPlane 58 = .ok (.iload_n 2, 1) := by decide +kernel
theorem dX6_fillPlane_59 : decode cX6_fillPlane 59 = .ok (.iconst 1, 1) := by decide +kernel
theorem dX6_fillPlane_60 : decode cX6_fillPlane 60 = .ok (.iadd, 1) := by decide +kernel
theorem dX6_fillPlane_61 : decode cX6_fillPlane 61 = .ok (.iload 4, 2) := by decide +kernel
theorem dX6_fillPlane_63 : decode cX6_fillPlane 63 = .ok (.iadd, 1) := by decide +kernel
theorem dX6_fillPlane_64 : decode cX6_fillPlane 64 = .ok (.iload 7, 2) := by decide +kernel
theorem dX6_fillPlane_66 : decode cX6_fillPlane 66 = .ok (.iadd, 1) := by decide +kernel
theorem dX6_fillPlane_67 : decode cX6_fillPlane 67 = .ok (.iaload, 1) := by decide +kernel
theorem dX6_fillPlane_68 : decode cX6_fillPlane 68 = .ok (.aload_n 0, 1) := by decide +kernel
theorem dX6_fillPlane_69 : decode cX6_fillPlane 69 = .ok (.getfield 36, 3) := by decide +kernel
theorem dX6_fillPlane_72 : decode cX6_fillPlane 72 = .ok (.iload_n 2, 1) := by decide +kernel
theorem dX6_fillPlane_73 : decode cX6_fillPlane 73 = .ok (.iconst 1, 1) := by decide +kernel
theorem dX6_fillPlane_74 : decode cX6_fillPlane 74 = .ok (.iadd, 1) := by decide +kernel
theorem dX6_fillPlane_75 : decode cX6_fillPlane 75 = .ok (.iload 4, 2) := by decide +kernel
theorem dX6_fillPlane_77 : decode cX6_fillPlane 77 = .ok (.iadd, 1) := by decide +kernel
theorem dX6_fillPlane_78 : decode cX6_fillPlane 78 = .ok (.iload 7, 2) := by decide +kernel
theorem dX6_fillPlane_80 : decode cX6_fillPlane 80 = .ok (.isub, 1) := by decide +kernel
theorem dX6_fillPlane_81 : decode cX6_fillPlane 81 = .ok (.iaload, 1) := by decide +kernel
theorem dX6_fillPlane_82 : decode cX6_fillPlane 82 = .ok (.isub, 1) := by decide +kernel
theorem dX6_fillPlane_83 : decode cX6_fillPlane 83 = .ok (.imul, 1) := by decide +kernel
theorem dX6_fillPlane_84 : decode cX6_fillPlane 84 = .ok (.iadd, 1) := by decide +kernel
theorem dX6_fillPlane_85 : decode cX6_fillPlane 85 = .ok (.istore 6, 2) := by decide +kernel
theorem dX6_fillPlane_87 : decode cX6_fillPlane 87 = .ok (.iinc 7 1, 3) := by decide +kernel
theorem dX6_fillPlane_90 : decode cX6_fillPlane 90 = .ok (.goto (-76), 3) := by decide +kernel
theorem dX6_fillPlane_93 : decode cX6_fillPlane 93 = .ok (.iload_n 3, 1) := by decide +kernel
theorem dX6_fillPlane_94 : decode cX6_fillPlane 94 = .ok (.iload 5, 2) := by decide +kernel
theorem dX6_fillPlane_96 : decode cX6_fillPlane 96 = .ok (.imul, 1) := by decide +kernel
theorem dX6_fillPlane_97 : decode cX6_fillPlane 97 = .ok (.bipush 32, 2) := by decide +kernel
theorem dX6_fillPlane_99 : decode cX6_fillPlane 99 = .ok (.iadd, 1) := by decide +kernel
theorem dX6_fillPlane_100 : decode cX6_fillPlane 100 = .ok (.bipush 6, 2) := by decide +kernel
theorem dX6_fillPlane_102 : decode cX6_fillPlane 102 = .ok (.ishr, 1) := by decide +kernel
theorem dX6_fillPlane_103 : decode cX6_fillPlane 103 = .ok (.istore 7, 2) := by decide +kernel
theorem dX6_fillPlane_105 : decode cX6_fillPlane 105 = .ok (.iload_n 3, 1) := by decide +kernel
theorem dX6_fillPlane_106 : decode cX6_fillPlane 106 = .ok (.iload 6, 2) := by decide +kernel
theorem dX6_fillPlane_108 : decode cX6_fillPlane 108 = .ok (.imul, 1) := by decide +kernel
theorem dX6_fillPlane_109 : decode cX6_fillPlane 109 = .ok (.bipush 32, 2) := by decide +kernel
theorem dX6_fillPlane_111 : decode cX6_fillPlane 111 = .ok (.iadd, 1) := by decide +kernel
theorem dX6_fillPlane_112 : decode cX6_fillPlane 112 = .ok (.bipush 6, 2) := by decide +kernel
theorem dX6_fillPlane_114 : decode cX6_fillPlane 114 = .ok (.ishr, 1) := by decide +kernel
theorem dX6_fillPlane_115 : decode cX6_fillPlane 115 = .ok (.istore 8, 2) := by decide +kernel
theorem dX6_fillPlane_117 : decode cX6_fillPlane 117 = .ok (.bipush 16, 2) := by decide +kernel
theorem dX6_fillPlane_119 : decode cX6_fillPlane 119 = .ok (.aload_n 0, 1) := by decide +kernel
theorem dX6_fillPlane_120 : decode cX6_fillPlane 120 = .ok (.getfield 36, 3) := by decide +kernel
theorem dX6_fillPlane_123 : decode cX6_fillPlane 123 = .ok (.iload_n 2, 1) := by decide +kernel
theorem dX6_fillPlane_124 : decode cX6_fillPlane 124 = .ok (.iaload, 1) := by decide +kernel
theorem dX6_fillPlane_125 : decode cX6_fillPlane 125 = .ok (.aload_n 0, 1) := by decide +kernel
theorem dX6_fillPlane_126 : decode cX6_fillPlane 126 = .ok (.getfield 36, 3) := by decide +kernel
theorem dX6_fillPlane_129 : decode cX6_fillPlane 129 = .ok (.iconst 2, 1) := by decide +kernel
theorem dX6_fillPlane_130 : decode cX6_fillPlane 130 = .ok (.iload_n 2, 1) := by decide +kernel
theorem dX6_fillPlane_131 : decode cX6_fillPlane 131 = .ok (.imul, 1) := by decide +kernel
theorem dX6_fillPlane_132 : decode cX6_fillPlane 132 = .ok (.iconst 1, 1) := by decide +kernel
theorem dX6_fillPlane_133 : decode cX6_fillPlane 133 = .ok (.iadd, 1) := by decide +kernel
theorem dX6_fillPlane_134 : decode cX6_fillPlane 134 = .ok (.iaload, 1) := by decide +kernel
theorem dX6_fillPlane_135 : decode cX6_fillPlane 135 = .ok (.iadd, 1) := by decide +kernel
theorem dX6_fillPlane_136 : decode cX6_fillPlane 136 = .ok (.imul, 1) := by decide +kernel
theorem dX6_fillPlane_137 : decode cX6_fillPlane 137 = .ok (.istore 9, 2) := by decide +kernel
theorem dX6_fillPlane_139 : decode cX6_fillPlane 139 = .ok (.iconst 0, 1) := by decide +kernel
theorem dX6_fillPlane_140 : decode cX6_fillPlane 140 = .ok (.istore 10, 2) := by decide +kernel
theorem dX6_fillPlane_142 : decode cX6_fillPlane 142 = .ok (.iload 10, 2) := by decide +kernel
theorem dX6_fillPlane_144 : decode cX6_fillPlane 144 = .ok (.iload_n 2, 1) := by decide +kernel
theorem dX6_fillPlane_145 : decode cX6_fillPlane 145 = .ok (.iload_n 2, 1) := by decide +kernel
theorem dX6_fillPlane_146 : decode cX6_fillPlane 146 = .ok (.imul, 1) := by decide +kernel
theorem dX6_fillPlane_147 : decode cX6_fillPlane 147 = .ok (.if_icmp .ge 86, 3) := by decide +kernel
theorem dX6_fillPlane_150 : decode cX6_fillPlane 150 = .ok (.iload 10, 2) := by decide +kernel
theorem dX6_fillPlane_152 : decode cX6_fillPlane 152 = .ok (.iload_n 2, 1) := by decide +kernel
theorem dX6_fillPlane_153 : decode cX6_fillPlane 153 = .ok (.irem, 1) := by decide +kernel
theorem dX6_fillPlane_154 : decode cX6_fillPlane 154 = .ok (.iload 4, 2) := by decide +kernel
theorem dX6_fillPlane_156 : decode cX6_fillPlane 156 = .ok (.isub, 1) := by decide +kernel
theorem dX6_fillPlane_157 : decode cX6_fillPlane 157 = .ok (.iconst 1, 1) := by decide +kernel
theorem dX6_fillPlane_158 : decode cX6_fillPlane 158 = .ok (.iadd, 1) := by decide +kernel
theorem dX6_fillPlane_159 : decode cX6_fillPlane 159 = .ok (.istore 11, 2) := by decide +kernel
theorem dX6_fillPlane_161 : decode cX6_fillPlane 161 = .ok (.iload 10, 2) := by decide +kernel
theorem dX6_fillPlane_163 : decode cX6_fillPlane 163 = .ok (.iload_n 2, 1) := by decide +kernel
theorem dX6_fillPlane_164 : decode cX6_fillPlane 164 = .ok (.idiv, 1) := by decide +kernel
theorem dX6_fillPlane_165 : decode cX6_fillPlane 165 = .ok (.iload 4, 2) := by decide +kernel
theorem dX6_fillPlane_167 : decode cX6_fillPlane 167 = .ok (.isub, 1) := by decide +kernel
theorem dX6_fillPlane_168 : decode cX6_fillPlane 168 = .ok (.iconst 1, 1) := by decide +kernel
theorem dX6_fillPlane_169 : decode cX6_fillPlane 169 = .ok (.iadd, 1) := by decide +kernel
theorem dX6_fillPlane_170 : decode cX6_fillPlane 170 = .ok (.istore 12, 2) := by decide +kernel
theorem dX6_fillPlane_172 : decode cX6_fillPlane 172 = .ok (.iload 9, 2) := by decide +kernel
theorem dX6_fillPlane_174 : decode cX6_fillPlane 174 = .ok (.iload 7, 2) := by decide +kernel
theorem dX6_fillPlane_176 : decode cX6_fillPlane 176 = .ok (.iload 11, 2) := by decide +kernel
theorem dX6_fillPlane_178 : decode cX6_fillPlane 178 = .ok (.imul, 1) := by decide +kernel
theorem dX6_fillPlane_179 : decode cX6_fillPlane 179 = .ok (.iadd, 1) := by decide +kernel
theorem dX6_fillPlane_180 : decode cX6_fillPlane 180 = .ok (.iload 8, 2) := by decide +kernel
theorem dX6_fillPlane_182 : decode cX6_fillPlane 182 = .ok (.iload 12, 2) := by decide +kernel
theorem dX6_fillPlane_184 : decode cX6_fillPlane 184 = .ok (.imul, 1) := by decide +kernel
theorem dX6_fillPlane_185 : decode cX6_fillPlane 185 = .ok (.iadd, 1) := by decide +kernel
theorem dX6_fillPlane_186 : decode cX6_fillPlane 186 = .ok (.bipush 16, 2) := by decide +kernel
theorem dX6_fillPlane_188 : decode cX6_fillPlane 188 = .ok (.iadd, 1) := by decide +kernel
theorem dX6_fillPlane_189 : decode cX6_fillPlane 189 = .ok (.iconst 5, 1) := by decide +kernel
theorem dX6_fillPlane_190 : decode cX6_fillPlane 190 = .ok (.ishr, 1) := by decide +kernel
theorem dX6_fillPlane_191 : decode cX6_fillPlane 191 = .ok (.istore 13, 2) := by decide +kernel
theorem dX6_fillPlane_193 : decode cX6_fillPlane 193 = .ok (.aload_n 0, 1) := by decide +kernel
theorem dX6_fillPlane_194 : decode cX6_fillPlane 194 = .ok (.getfield 9, 3) := by decide +kernel
theorem dX6_fillPlane_197 : decode cX6_fillPlane 197 = .ok (.iload_n 1, 1) := by decide +kernel
theorem dX6_fillPlane_198 : decode cX6_fillPlane 198 = .ok (.iload 10, 2) := by decide +kernel
theorem dX6_fillPlane_200 : decode cX6_fillPlane 200 = .ok (.iadd, 1) := by decide +kernel
theorem dX6_fillPlane_201 : decode cX6_fillPlane 201 = .ok (.iload 13, 2) := by decide +kernel
theorem dX6_fillPlane_203 : decode cX6_fillPlane 203 = .ok (.ifCond .ge 7, 3) := by decide +kernel
theorem dX6_fillPlane_206 : decode cX6_fillPlane 206 = .ok (.iconst 0, 1) := by decide +kernel
theorem dX6_fillPlane_207 : decode cX6_fillPlane 207 = .ok (.goto 19, 3) := by decide +kernel
theorem dX6_fillPlane_210 : decode cX6_fillPlane 210 = .ok (.iload 13, 2) := by decide +kernel
theorem dX6_fillPlane_212 : decode cX6_fillPlane 212 = .ok (.sipush 255, 3) := by decide +kernel
theorem dX6_fillPlane_215 : decode cX6_fillPlane 215 = .ok (.if_icmp .le 9, 3) := by decide +kernel
theorem dX6_fillPlane_218 : decode cX6_fillPlane 218 = .ok (.sipush 255, 3) := by decide +kernel
theorem dX6_fillPlane_221 : decode cX6_fillPlane 221 = .ok (.goto 5, 3) := by decide +kernel
theorem dX6_fillPlane_224 : decode cX6_fillPlane 224 = .ok (.iload 13, 2) := by decide +kernel
theorem dX6_fillPlane_226 : decode cX6_fillPlane 226 = .ok (.iastore, 1) := by decide +kernel
theorem dX6_fillPlane_227 : decode cX6_fillPlane 227 = .ok (.iinc 10 1, 3) := by decide +kernel
theorem dX6_fillPlane_230 : decode cX6_fillPlane 230 = .ok (.goto (-88), 3) := by decide +kernel
theorem dX6_fillPlane_233 : decode cX6_fillPlane 233 = .ok (.return_, 1) := by decide +kernel
def FX6_fillPlane (G : GG) (M : DD) (a : Nat) (p0 : Int32) (p1 : Int32) (p2 : Int32) : Option (DD) :=
  ltt (p1 / ((2 : Int32))) fun x1 =>
  bnd (itr (fun (s3 : Int32 × Int32 × Int32) => ((if x1 < s3.2.2 then (some (.inr (s3.1, s3.2.1, s3.2.2))) else
  (ltt ((x1 + s3.2.2)) fun x46 =>
  dr G 13 ((M.2 a 8)) fun b47 =>
  chk (¬ (x46 < 0 ∨ G.2.2 b47 ≤ x46.toNatClampNeg)) <|
  ltt (M.1 b47 x46.toNatClampNeg) fun x48 =>
  ltt ((x1 - s3.2.2)) fun x49 =>
  chk (¬ (x49 < 0 ∨ G.2.2 b47 ≤ x49.toNatClampNeg)) <|
  ltt (M.1 b47 x49.toNatClampNeg) fun x50 =>
  ltt ((x48 - x50)) fun x51 =>
  ltt ((s3.2.2 * x51)) fun x52 =>
  ltt ((s3.1 + x52)) fun x53 =>
  ltt ((p1 + ((1 : Int32)))) fun x54 =>
  ltt ((x54 + x1)) fun x55 =>
  ltt ((x55 + s3.2.2)) fun x56 =>
  chk (¬ (x56 < 0 ∨ G.2.2 b47 ≤ x56.toNatClampNeg)) <|
  ltt (M.1 b47 x56.toNatClampNeg) fun x57 =>
  ltt ((p1 + ((1 : Int32)))) fun x58 =>
  ltt ((x58 + x1)) fun x59 =>
  ltt ((x59 - s3.2.2)) fun x60 =>
  chk (¬ (x60 < 0 ∨ G.2.2 b47 ≤ x60.toNatClampNeg)) <|
  ltt (M.1 b47 x60.toNatClampNeg) fun x61 =>
  ltt ((x57 - x61)) fun x62 =>
  ltt ((s3.2.2 * x62)) fun x63 =>
  ltt ((s3.2.1 + x63)) fun x64 =>
  ltt (s3.2.2 + (1 : Int32)) fun x65 =>
  some (.inl (x53, x64, x65)))) : Option ((Int32 × Int32 × Int32) ⊕ (Int32 × Int32 × Int32)))) 1000000 ((0 : Int32), (0 : Int32), (1 : Int32))) fun (y2 : Int32 × Int32 × Int32) =>
  ltt ((p2 * y2.1)) fun x5 =>
  ltt ((x5 + ((32 : Int32)))) fun x6 =>
  ltt ((x6 >>> (((6 : Int32)) &&& 31))) fun x7 =>
  ltt ((p2 * y2.2.1)) fun x8 =>
  ltt ((x8 + ((32 : Int32)))) fun x9 =>
  ltt ((x9 >>> (((6 : Int32)) &&& 31))) fun x10 =>
  dr G 13 ((M.2 a 8)) fun b11 =>
  chk (¬ (p1 < 0 ∨ G.2.2 b11 ≤ p1.toNatClampNeg)) <|
  ltt (M.1 b11 p1.toNatClampNeg) fun x12 =>
  ltt ((((2 : Int32)) * p1)) fun x13 =>
  ltt ((x13 + ((1 : Int32)))) fun x14 =>
  chk (¬ (x14 < 0 ∨ G.2.2 b11 ≤ x14.toNatClampNeg)) <|
  ltt (M.1 b11 x14.toNatClampNeg) fun x15 =>
  ltt ((x12 + x15)) fun x16 =>
  ltt ((((16 : Int32)) * x16)) fun x17 =>
  bnd (itr (fun (s19 : Int32 × DD) => ((ltt ((p1 * p1)) fun x22 =>
  if x22 ≤ s19.1 then (some (.inr (s19.1, s19.2))) else
  (chk (¬ p1 = 0) <|
  ltt (s19.1 - s19.1 / p1 * p1) fun x24 =>
  ltt ((x24 - x1)) fun x25 =>
  ltt ((x25 + ((1 : Int32)))) fun x26 =>
  chk (¬ p1 = 0) <|
  ltt (s19.1 / p1) fun x27 =>
  ltt ((x27 - x1)) fun x28 =>
  ltt ((x28 + ((1 : Int32)))) fun x29 =>
  ltt ((x7 * x26)) fun x30 =>
  ltt ((x17 + x30)) fun x31 =>
  ltt ((x10 * x29)) fun x32 =>
  ltt ((x31 + x32)) fun x33 =>
  ltt ((x33 + ((16 : Int32)))) fun x34 =>
  ltt ((x34 >>> (((5 : Int32)) &&& 31))) fun x35 =>
  ltt ((p0 + s19.1)) fun x36 =>
  bnd (if ((0 : Int32)) ≤ x35 then (bnd (if x35 ≤ ((255 : Int32)) then (some (x35)) else
  (some ((255 : Int32)))) fun (y42 : Int32) =>
  some (y42)) else
  (some ((0 : Int32)))) fun (y37 : Int32) =>
  dr G 13 ((s19.2.2 a 0)) fun b38 =>
  chk (¬ (x36 < 0 ∨ G.2.2 b38 ≤ x36.toNatClampNeg)) <|
  ltt (uI s19.2 b38 x36.toNatClampNeg y37) fun M39 =>
  ltt (s19.1 + (1 : Int32)) fun x40 =>
  some (.inl (x40, M39)))) : Option ((Int32 × DD) ⊕ (Int32 × DD)))) 1000000 ((0 : Int32), M)) fun (y18 : Int32 × DD) =>
  some y18.2
set_option maxHeartbeats 4000000 in
set_option maxRecDepth 100000 in
theorem kX6_fillPlane (l : Launch) (D : va_G) (ct : CT) (ad : Nat → Nat) (Z : Nat → Nat) (G : GG) (M : DD) (sz : Nat) (a : Nat) (p0 : Int32) (p1 : Int32) (p2 : Int32) (y : DD) (hc : a < G.1) (hk : G.2.1 a = 6) (hF : FX6_fillPlane G M a p0 p1 p2 = some y) : Met l yX6_fillPlane wsX6_fillPlane ({ frames := 0, cells := 0, slots := 0, locals := 0 }) (va_Pc [.ref (ad a), .int p0, .int p1, .int p2] (kB D ct ad Z G M sz)) (va_Qv (fun (_ : Unit) => True) (fun _ t => kE D ct ad G (wA ad G sz) y t) (wA ad G sz)) 0 0 (wA ad G sz) := by
  refine Met.ofW (cc := cX6_fillPlane) (maxL := 14) (ret := none) (by decide) rfl ?_
  intro p e s m args below meth c s₁ B hml hv
  obtain ⟨rfl, hsz, hP, hK, hD0, hZ, hN⟩ := hv
  have hx := B.exec
  have hb := B.bytes
  have hr := B.returns
  have hts := atoms_spec (ws := wsX6_fillPlane) B.pre
  have hown : s.vm.findClass RX6 = some m.cls := findClass_of_methodNamed B.named
  have hlocks := B.notSynchronized
  subst hsz
  have hD := wD_self (sz := s.heap.size) hD0
  have hA9 : ∀ q, s.heap.size ≤ q → wA ad G s.heap.size q := fun q h => Or.inr h
  generalize hAe : wA ad G s.heap.size = A at hD hA9 hZ ⊢
  have hS : va_S A s.heap s.heap [] := va_S.rf
  have hl := lv_entry ([.ref (ad a), .int p0, .int p1, .int p2]) (n := 14) (Nat.le_of_ble_eq_true rfl)
  rw [lg_entry_eq]
  generalize (lg_sl ([.ref (ad a), .int p0, .int p1, .int p2]) ++ List.replicate (14 - (lg_sl ([.ref (ad a), .int p0, .int p1, .int p2])).length) Slot.unset).toArray = ls at hl ⊢
  have hl : lv_has ls 14 [(0, .ref (ad a)), (1, .int p0), (2, .int p1), (3, .int p2)] := hl
  unfold FX6_fillPlane at hF
  refine lv_iload_n hx hb dX6_fillPlane_0 rfl (lv_at hl 2 rfl) ?_
  refine lv_iconst (v := (2 : Int32)) hx hb dX6_fillPlane_1 (by decide) ?_
  refine lv_idiv hx hb dX6_fillPlane_2 (by decide) ?_
  obtain ⟨x1, ex1, hF⟩ := ltt_some hF
  refine lv_topi (fun zx1 ezx1 => ?_)
  obtain rfl : x1 = zx1 := ex1.trans ezx1.symm
  refine lv_istore (lv' := [(4, .int x1), (0, .ref (ad a)), (1, .int p0), (2, .int p1), (3, .int p2)]) hx hb dX6_fillPlane_3 hl (by decide) rfl (fun ls hl => ?_)
  refine lv_iconst (v := (0 : Int32)) hx hb dX6_fillPlane_5 (by decide) ?_
  refine lv_istore (lv' := [(5, .int (0 : Int32)), (4, .int x1), (0, .ref (ad a)), (1, .int p0), (2, .int p1), (3, .int p2)]) hx hb dX6_fillPlane_6 hl (by decide) rfl (fun ls hl => ?_)
  refine lv_iconst (v := (0 : Int32)) hx hb dX6_fillPlane_8 (by decide) ?_
  refine lv_istore (lv' := [(6, .int (0 : Int32)), (5, .int (0 : Int32)), (4, .int x1), (0, .ref (ad a)), (1, .int p0), (2, .int p1), (3, .int p2)]) hx hb dX6_fillPlane_9 hl (by decide) rfl (fun ls hl => ?_)
  refine lv_iconst (v := (1 : Int32)) hx hb dX6_fillPlane_11 (by decide) ?_
  refine lv_istore (lv' := [(7, .int (1 : Int32)), (6, .int (0 : Int32)), (5, .int (0 : Int32)), (4, .int x1), (0, .ref (ad a)), (1, .int p0), (2, .int p1), (3, .int p2)]) hx hb dX6_fillPlane_12 hl (by decide) rfl (fun ls hl => ?_)
  obtain ⟨y2, hy2, hF⟩ := bnd_some hF
  have K2 : ∀ (H : Heap) (locs : List Loc) (ls : Array Slot), va_P D classes (wld ct ad G M) H → va_D A (wld ct ad G M) → va_S A s.heap H locs → lv_has ls 14 [(7, .int y2.2.2), (6, .int y2.2.1), (5, .int y2.1), (4, .int x1), (0, .ref (ad a)), (1, .int p0), (2, .int p1), (3, .int p2)] → W p l e (headSpec wsX6_fillPlane ({ frames := 0, cells := 0, slots := 0, locals := 0 })).room s m ([.ref (ad a), .int p0, .int p1, .int p2] : List Value).toArray below meth c H locs 0 0 (MQ below (va_Qv (fun (_ : Unit) => True) (fun _ t => kE D ct ad G A y t) A) ([.ref (ad a), .int p0, .int p1, .int p2] : List Value).toArray s 0 0 A) (F0 m 93 ls []) := by
    intro H locs ls hP hD hS hl
    refine lv_iload_n hx hb dX6_fillPlane_93 rfl (lv_at hl 7 rfl) ?_
    refine lv_iload hx hb dX6_fillPlane_94 (lv_at hl 2 rfl) ?_
    refine lv_imul hx hb dX6_fillPlane_96 ?_
    obtain ⟨x5, ex5, hF⟩ := ltt_some hF
    refine lv_topi (fun zx5 ezx5 => ?_)
    obtain rfl : x5 = zx5 := ex5.trans ezx5.symm
    refine lv_bipush (v := (32 : Int32)) hx hb dX6_fillPlane_97 (by decide) ?_
    refine lv_iadd hx hb dX6_fillPlane_99 ?_
    obtain ⟨x6, ex6, hF⟩ := ltt_some hF
    refine lv_topi (fun zx6 ezx6 => ?_)
    obtain rfl : x6 = zx6 := ex6.trans ezx6.symm
    refine lv_bipush (v := (6 : Int32)) hx hb dX6_fillPlane_100 (by decide) ?_
    refine lv_ishr hx hb dX6_fillPlane_102 ?_
    obtain ⟨x7, ex7, hF⟩ := ltt_some hF
    refine lv_topi (fun zx7 ezx7 => ?_)
    obtain rfl : x7 = zx7 := ex7.trans ezx7.symm
    refine lv_istore (lv' := [(7, .int x7), (6, .int y2.2.1), (5, .int y2.1), (4, .int x1), (0, .ref (ad a)), (1, .int p0), (2, .int p1), (3, .int p2)]) hx hb dX6_fillPlane_103 hl (by decide) rfl (fun ls hl => ?_)
    refine lv_iload_n hx hb dX6_fillPlane_105 rfl (lv_at hl 7 rfl) ?_
    refine lv_iload hx hb dX6_fillPlane_106 (lv_at hl 1 rfl) ?_
    refine lv_imul hx hb dX6_fillPlane_108 ?_
    obtain ⟨x8, ex8, hF⟩ := ltt_some hF
    refine lv_topi (fun zx8 ezx8 => ?_)
    obtain rfl : x8 = zx8 := ex8.trans ezx8.symm
    refine lv_bipush (v := (32 : Int32)) hx hb dX6_fillPlane_109 (by decide) ?_
    refine lv_iadd hx hb dX6_fillPlane_111 ?_
    obtain ⟨x9, ex9, hF⟩ := ltt_some hF
    refine lv_topi (fun zx9 ezx9 => ?_)
    obtain rfl : x9 = zx9 := ex9.trans ezx9.symm
    refine lv_bipush (v := (6 : Int32)) hx hb dX6_fillPlane_112 (by decide) ?_
    refine lv_ishr hx hb dX6_fillPlane_114 ?_
    obtain ⟨x10, ex10, hF⟩ := ltt_some hF
    refine lv_topi (fun zx10 ezx10 => ?_)
    obtain rfl : x10 = zx10 := ex10.trans ezx10.symm
    refine lv_istore (lv' := [(8, .int x10), (7, .int x7), (6, .int y2.2.1), (5, .int y2.1), (4, .int x1), (0, .ref (ad a)), (1, .int p0), (2, .int p1), (3, .int p2)]) hx hb dX6_fillPlane_115 hl (by decide) rfl (fun ls hl => ?_)
    refine lv_bipush (v := (16 : Int32)) hx hb dX6_fillPlane_117 (by decide) ?_
    refine lv_aload_n hx hb dX6_fillPlane_119 rfl (lv_at hl 5 rfl) ?_
    refine va_get (D := D) (ci := 6) (v := va_re ad (M.2 a 8)) (C := RX6) (T := TX6) (N := 14) hx hb hts (by decide +kernel) hown hK hP a (wld_o ct ad G M hc hk (by decide)) rfl 8 (by decide) (hts (.fieldLink RX6 36 "VideoSuite$Samples" "around" "[I") (by decide +kernel)) (fun _ h9 => h9) rfl dX6_fillPlane_120 ?_
    refine lv_iload_n hx hb dX6_fillPlane_123 rfl (lv_at hl 7 rfl) ?_
    obtain ⟨b11, ho11, hc11, hk11, hF⟩ := dr_some hF
    refine W_st (st' := [.int p1, .ref (ad b11), .int (16 : Int32)]) (by rw [va_some ho11]) ?_
    obtain ⟨hvc, hF⟩ := chk_some hF
    refine va_iald hx hb hK hP b11 1 (wld_i ct ad G M hc11 hk11) rfl hvc dX6_fillPlane_124 ?_
    obtain ⟨x12, ex12, hF⟩ := ltt_some hF
    refine lv_topi (fun zx12 ezx12 => ?_)
    obtain rfl : x12 = zx12 := ex12.trans ezx12.symm
    refine lv_aload_n hx hb dX6_fillPlane_125 rfl (lv_at hl 5 rfl) ?_
    refine va_get (D := D) (ci := 6) (v := va_re ad (M.2 a 8)) (C := RX6) (T := TX6) (N := 14) hx hb hts (by decide +kernel) hown hK hP a (wld_o ct ad G M hc hk (by decide)) rfl 8 (by decide) (hts (.fieldLink RX6 36 "VideoSuite$Samples" "around" "[I") (by decide +kernel)) (fun _ h9 => h9) rfl dX6_fillPlane_126 ?_
    refine lv_iconst (v := (2 : Int32)) hx hb dX6_fillPlane_129 (by decide) ?_
    refine lv_iload_n hx hb dX6_fillPlane_130 rfl (lv_at hl 7 rfl) ?_
    refine lv_imul hx hb dX6_fillPlane_131 ?_
    obtain ⟨x13, ex13, hF⟩ := ltt_some hF
    refine lv_topi (fun zx13 ezx13 => ?_)
    obtain rfl : x13 = zx13 := ex13.trans ezx13.symm
    refine lv_iconst (v := (1 : Int32)) hx hb dX6_fillPlane_132 (by decide) ?_
    refine lv_iadd hx hb dX6_fillPlane_133 ?_
    obtain ⟨x14, ex14, hF⟩ := ltt_some hF
    refine lv_topi (fun zx14 ezx14 => ?_)
    obtain rfl : x14 = zx14 := ex14.trans ezx14.symm
    refine W_st (st' := [.int x14, .ref (ad b11), .int x12, .int (16 : Int32)]) (by rw [va_some ho11]) ?_
    obtain ⟨hvc, hF⟩ := chk_some hF
    refine va_iald hx hb hK hP b11 1 (wld_i ct ad G M hc11 hk11) rfl hvc dX6_fillPlane_134 ?_
    obtain ⟨x15, ex15, hF⟩ := ltt_some hF
    refine lv_topi (fun zx15 ezx15 => ?_)
    obtain rfl : x15 = zx15 := ex15.trans ezx15.symm
    refine lv_iadd hx hb dX6_fillPlane_135 ?_
    obtain ⟨x16, ex16, hF⟩ := ltt_some hF
    refine lv_topi (fun zx16 ezx16 => ?_)
    obtain rfl : x16 = zx16 := ex16.trans ezx16.symm
    refine lv_imul hx hb dX6_fillPlane_136 ?_
    obtain ⟨x17, ex17, hF⟩ := ltt_some hF
    refine lv_topi (fun zx17 ezx17 => ?_)
    obtain rfl : x17 = zx17 := ex17.trans ezx17.symm
    refine lv_istore (lv' := [(9, .int x17), (8, .int x10), (7, .int x7), (6, .int y2.2.1), (5, .int y2.1), (4, .int x1), (0, .ref (ad a)), (1, .int p0), (2, .int p1), (3, .int p2)]) hx hb dX6_fillPlane_137 hl (by decide) rfl (fun ls hl => ?_)
    refine lv_iconst (v := (0 : Int32)) hx hb dX6_fillPlane_139 (by decide) ?_
    refine lv_istore (lv' := [(10, .int (0 : Int32)), (9, .int x17), (8, .int x10), (7, .int x7), (6, .int y2.2.1), (5, .int y2.1), (4, .int x1), (0, .ref (ad a)), (1, .int p0), (2, .int p1), (3, .int p2)]) hx hb dX6_fillPlane_140 hl (by decide) rfl (fun ls hl => ?_)
    obtain ⟨y18, hy18, hF⟩ := bnd_some hF
    have K18 : ∀ (H : Heap) (locs : List Loc) (ls : Array Slot), va_P D classes (wld ct ad G y18.2) H → va_D A (wld ct ad G y18.2) → va_S A s.heap H locs → lv_has ls 14 [(10, .int y18.1), (9, .int x17), (8, .int x10), (7, .int x7), (6, .int y2.2.1), (5, .int y2.1), (4, .int x1), (0, .ref (ad a)), (1, .int p0), (2, .int p1), (3, .int p2)] → W p l e (headSpec wsX6_fillPlane ({ frames := 0, cells := 0, slots := 0, locals := 0 })).room s m ([.ref (ad a), .int p0, .int p1, .int p2] : List Value).toArray below meth c H locs 0 0 (MQ below (va_Qv (fun (_ : Unit) => True) (fun _ t => kE D ct ad G A y t) A) ([.ref (ad a), .int p0, .int p1, .int p2] : List Value).toArray s 0 0 A) (F0 m 233 ls []) := by
      intro H locs ls hP hD hS hl
      obtain rfl := Option.some.inj hF
      exact W.vret hx hb hr (fun t ht hW => ⟨⟨(), rfl, trivial, ⟨by rw [ht]; exact hP, va_K.moved hW.alike hK, hD⟩⟩, hS.F ht⟩) hS.2.2 dX6_fillPlane_233
    clear hF
    refine itr_rule (fun (s19 : Int32 × DD) => ∀ (H : Heap) (locs : List Loc) (ls : Array Slot), va_P D classes (wld ct ad G s19.2) H → va_D A (wld ct ad G s19.2) → va_S A s.heap H locs → lv_has ls 14 [(10, .int s19.1), (9, .int x17), (8, .int x10), (7, .int x7), (6, .int y2.2.1), (5, .int y2.1), (4, .int x1), (0, .ref (ad a)), (1, .int p0), (2, .int p1), (3, .int p2)] → W p l e (headSpec wsX6_fillPlane ({ frames := 0, cells := 0, slots := 0, locals := 0 })).room s m ([.ref (ad a), .int p0, .int p1, .int p2] : List Value).toArray below meth c H locs 0 0 (MQ below (va_Qv (fun (_ : Unit) => True) (fun _ t => kE D ct ad G A y t) A) ([.ref (ad a), .int p0, .int p1, .int p2] : List Value).toArray s 0 0 A) (F0 m 142 ls [])) ?_ _ _ hy18 _ _ _ hP hD hS (lv_sub hl [0, 1, 2, 3, 4, 5, 6, 7, 8, 9, 10] rfl)
    rintro s19 ⟨z21, hF, hwz21⟩ H locs ls hP hD hS hl
    try dsimp only at hF
    refine lv_iload hx hb dX6_fillPlane_142 (lv_at hl 0 rfl) ?_
    refine lv_iload_n hx hb dX6_fillPlane_144 rfl (lv_at hl 9 rfl) ?_
    refine lv_iload_n hx hb dX6_fillPlane_145 rfl (lv_at hl 9 rfl) ?_
    refine lv_imul hx hb dX6_fillPlane_146 ?_
    obtain ⟨x22, ex22, hF⟩ := ltt_some hF
    refine lv_topi (fun zx22 ezx22 => ?_)
    obtain rfl : x22 = zx22 := ex22.trans ezx22.symm
    refine lv_icmp_ge (tgt := 233) hx hb dX6_fillPlane_147 (by decide) (fun c23 => ?_) (fun c23 => ?_)
    · rw [if_pos c23] at hF
      obtain rfl := Option.some.inj hF
      subst hwz21
      exact K18 _ _ _ hP hD hS (lv_sub hl [0, 1, 2, 3, 4, 5, 6, 7, 8, 9, 10] rfl)
    · rw [if_neg c23] at hF
      refine lv_iload hx hb dX6_fillPlane_150 (lv_at hl 0 rfl) ?_
      refine lv_iload_n hx hb dX6_fillPlane_152 rfl (lv_at hl 9 rfl) ?_
      obtain ⟨hne, hF⟩ := chk_some hF
      refine lv_irem hx hb dX6_fillPlane_153 hne ?_
      obtain ⟨x24, ex24, hF⟩ := ltt_some hF
      refine lv_topi (fun zx24 ezx24 => ?_)
      obtain rfl : x24 = zx24 := ex24.trans ezx24.symm
      refine lv_iload hx hb dX6_fillPlane_154 (lv_at hl 6 rfl) ?_
      refine lv_isub hx hb dX6_fillPlane_156 ?_
      obtain ⟨x25, ex25, hF⟩ := ltt_some hF
      refine lv_topi (fun zx25 ezx25 => ?_)
      obtain rfl : x25 = zx25 := ex25.trans ezx25.symm
      refine lv_iconst (v := (1 : Int32)) hx hb dX6_fillPlane_157 (by decide) ?_
      refine lv_iadd hx hb dX6_fillPlane_158 ?_
      obtain ⟨x26, ex26, hF⟩ := ltt_some hF
      refine lv_topi (fun zx26 ezx26 => ?_)
      obtain rfl : x26 = zx26 := ex26.trans ezx26.symm
      refine lv_istore (lv' := [(11, .int x26), (10, .int s19.1), (9, .int x17), (8, .int x10), (7, .int x7), (6, .int y2.2.1), (5, .int y2.1), (4, .int x1), (0, .ref (ad a)), (1, .int p0), (2, .int p1), (3, .int p2)]) hx hb dX6_fillPlane_159 hl (by decide) rfl (fun ls hl => ?_)
      refine lv_iload hx hb dX6_fillPlane_161 (lv_at hl 1 rfl) ?_
      refine lv_iload_n hx hb dX6_fillPlane_163 rfl (lv_at hl 10 rfl) ?_
      obtain ⟨hne, hF⟩ := chk_some hF
      refine lv_idiv hx hb dX6_fillPlane_164 hne ?_
      obtain ⟨x27, ex27, hF⟩ := ltt_some hF
      refine lv_topi (fun zx27 ezx27 => ?_)
      obtain rfl : x27 = zx27 := ex27.trans ezx27.symm
      refine lv_iload hx hb dX6_fillPlane_165 (lv_at hl 7 rfl) ?_
      refine lv_isub hx hb dX6_fillPlane_167 ?_
      obtain ⟨x28, ex28, hF⟩ := ltt_some hF
      refine lv_topi (fun zx28 ezx28 => ?_)
      obtain rfl : x28 = zx28 := ex28.trans ezx28.symm
      refine lv_iconst (v := (1 : Int32)) hx hb dX6_fillPlane_168 (by decide) ?_
      refine lv_iadd hx hb dX6_fillPlane_169 ?_
      obtain ⟨x29, ex29, hF⟩ := ltt_some hF
      refine lv_topi (fun zx29 ezx29 => ?_)
      obtain rfl : x29 = zx29 := ex29.trans ezx29.symm
      refine lv_istore (lv' := [(12, .int x29), (11, .int x26), (10, .int s19.1), (9, .int x17), (8, .int x10), (7, .int x7), (6, .int y2.2.1), (5, .int y2.1), (4, .int x1), (0, .ref (ad a)), (1, .int p0), (2, .int p1), (3, .int p2)]) hx hb dX6_fillPlane_170 hl (by decide) rfl (fun ls hl => ?_)
      refine lv_iload hx hb dX6_fillPlane_172 (lv_at hl 3 rfl) ?_
      refine lv_iload hx hb dX6_fillPlane_174 (lv_at hl 5 rfl) ?_
      refine lv_iload hx hb dX6_fillPlane_176 (lv_at hl 1 rfl) ?_
      refine lv_imul hx hb dX6_fillPlane_178 ?_
      obtain ⟨x30, ex30, hF⟩ := ltt_some hF
      refine lv_topi (fun zx30 ezx30 => ?_)
      obtain rfl : x30 = zx30 := ex30.trans ezx30.symm
      refine lv_iadd hx hb dX6_fillPlane_179 ?_
      obtain ⟨x31, ex31, hF⟩ := ltt_some hF
      refine lv_topi (fun zx31 ezx31 => ?_)
      obtain rfl : x31 = zx31 := ex31.trans ezx31.symm
      refine lv_iload hx hb dX6_fillPlane_180 (lv_at hl 4 rfl) ?_
      refine lv_iload hx hb dX6_fillPlane_182 (lv_at hl 0 rfl) ?_
      refine lv_imul hx hb dX6_fillPlane_184 ?_
      obtain ⟨x32, ex32, hF⟩ := ltt_some hF
      refine lv_topi (fun zx32 ezx32 => ?_)
      obtain rfl : x32 = zx32 := ex32.trans ezx32.symm
      refine lv_iadd hx hb dX6_fillPlane_185 ?_
      obtain ⟨x33, ex33, hF⟩ := ltt_some hF
      refine lv_topi (fun zx33 ezx33 => ?_)
      obtain rfl : x33 = zx33 := ex33.trans ezx33.symm
      refine lv_bipush (v := (16 : Int32)) hx hb dX6_fillPlane_186 (by decide) ?_
      refine lv_iadd hx hb dX6_fillPlane_188 ?_
      obtain ⟨x34, ex34, hF⟩ := ltt_some hF
      refine lv_topi (fun zx34 ezx34 => ?_)
      obtain rfl : x34 = zx34 := ex34.trans ezx34.symm
      refine lv_iconst (v := (5 : Int32)) hx hb dX6_fillPlane_189 (by decide) ?_
      refine lv_ishr hx hb dX6_fillPlane_190 ?_
      obtain ⟨x35, ex35, hF⟩ := ltt_some hF
      refine lv_topi (fun zx35 ezx35 => ?_)
      obtain rfl : x35 = zx35 := ex35.trans ezx35.symm
      refine lv_istore (lv' := [(13, .int x35), (12, .int x29), (11, .int x26), (10, .int s19.1), (9, .int x17), (8, .int x10), (7, .int x7), (6, .int y2.2.1), (5, .int y2.1), (4, .int x1), (0, .ref (ad a)), (1, .int p0), (2, .int p1), (3, .int p2)]) hx hb dX6_fillPlane_191 hl (by decide) rfl (fun ls hl => ?_)
      refine lv_aload_n hx hb dX6_fillPlane_193 rfl (lv_at hl 10 rfl) ?_
      refine va_get (D := D) (ci := 6) (v := va_re ad (s19.2.2 a 0)) (C := RX6) (T := TX6) (N := 14) hx hb hts (by decide +kernel) hown hK hP a (wld_o ct ad G s19.2 hc hk (by decide)) rfl 0 (by decide) (hts (.fieldLink RX6 9 "VideoSuite$Samples" "guess" "[I") (by decide +kernel)) (fun _ h9 => h9) rfl dX6_fillPlane_194 ?_
      refine lv_iload_n hx hb dX6_fillPlane_197 rfl (lv_at hl 11 rfl) ?_
      refine lv_iload hx hb dX6_fillPlane_198 (lv_at hl 3 rfl) ?_
      refine lv_iadd hx hb dX6_fillPlane_200 ?_
      obtain ⟨x36, ex36, hF⟩ := ltt_some hF
      refine lv_topi (fun zx36 ezx36 => ?_)
      obtain rfl : x36 = zx36 := ex36.trans ezx36.symm
      refine lv_iload hx hb dX6_fillPlane_201 (lv_at hl 0 rfl) ?_
      obtain ⟨y37, hy37, hF⟩ := bnd_some hF
      have J37 : ∀ (H : Heap) (locs : List Loc) (ls : Array Slot), va_P D classes (wld ct ad G s19.2) H → va_D A (wld ct ad G s19.2) → va_S A s.heap H locs → lv_has ls 14 [(13, .int x35), (12, .int x29), (11, .int x26), (10, .int s19.1), (9, .int x17), (8, .int x10), (7, .int x7), (6, .int y2.2.1), (5, .int y2.1), (4, .int x1), (0, .ref (ad a)), (1, .int p0), (2, .int p1), (3, .int p2)] → W p l e (headSpec wsX6_fillPlane ({ frames := 0, cells := 0, slots := 0, locals := 0 })).room s m ([.ref (ad a), .int p0, .int p1, .int p2] : List Value).toArray below meth c H locs 0 0 (MQ below (va_Qv (fun (_ : Unit) => True) (fun _ t => kE D ct ad G A y t) A) ([.ref (ad a), .int p0, .int p1, .int p2] : List Value).toArray s 0 0 A) (F0 m 226 ls [.int y37, .int x36, va_re ad (s19.2.2 a 0)]) := by
        intro H locs ls hP hD hS hl
        obtain ⟨b38, ho38, hc38, hk38, hF⟩ := dr_some hF
        refine W_st (st' := [.int y37, .int x36, .ref (ad b38)]) (by rw [va_some ho38]) ?_
        obtain ⟨hvc, hF⟩ := chk_some hF
        refine va_iast hx hb hK hP hD hS b38 1 (wld_i ct ad G s19.2 hc38 hk38) rfl hvc dX6_fillPlane_226 (fun H locs hP hD hS => ?_)
        obtain ⟨M39, eM39, hF⟩ := ltt_some hF
        rw [set_i ct ad G s19.2 hc38 hk38, ← eM39] at hP hD
        obtain ⟨x40, ex40, hF⟩ := ltt_some hF
        refine lv_iinc (v := x40) (lv' := [(10, .int x40), (13, .int x35), (12, .int x29), (11, .int x26), (9, .int x17), (8, .int x10), (7, .int x7), (6, .int y2.2.1), (5, .int y2.1), (4, .int x1), (0, .ref (ad a)), (1, .int p0), (2, .int p1), (3, .int p2)]) hx hb dX6_fillPlane_227 hl (k := 3) rfl (by rw [ex40]; rfl) (by decide) rfl (fun ls hl => ?_)
        refine lv_goto (tgt := 142) hx hb dX6_fillPlane_230 (by decide) ?_
        obtain rfl := Option.some.inj hF
        exact hwz21 _ _ _ hP hD hS (lv_sub hl [0, 4, 5, 6, 7, 8, 9, 10, 11, 12, 13] rfl)
      clear hF
      have hF := hy37
      clear hy37
      refine lv_if_ge (tgt := 210) hx hb dX6_fillPlane_203 (by decide) (fun c41 => ?_) (fun c41 => ?_)
      · rw [if_pos c41] at hF
        refine lv_iload hx hb dX6_fillPlane_210 (lv_at hl 0 rfl) ?_
        refine lv_sipush (v := (255 : Int32)) hx hb dX6_fillPlane_212 (by decide) ?_
        obtain ⟨y42, hy42, hF⟩ := bnd_some hF
        have J42 : ∀ (H : Heap) (locs : List Loc) (ls : Array Slot), va_P D classes (wld ct ad G s19.2) H → va_D A (wld ct ad G s19.2) → va_S A s.heap H locs → lv_has ls 14 [(13, .int x35), (12, .int x29), (11, .int x26), (10, .int s19.1), (9, .int x17), (8, .int x10), (7, .int x7), (6, .int y2.2.1), (5, .int y2.1), (4, .int x1), (0, .ref (ad a)), (1, .int p0), (2, .int p1), (3, .int p2)] → W p l e (headSpec wsX6_fillPlane ({ frames := 0, cells := 0, slots := 0, locals := 0 })).room s m ([.ref (ad a), .int p0, .int p1, .int p2] : List Value).toArray below meth c H locs 0 0 (MQ below (va_Qv (fun (_ : Unit) => True) (fun _ t => kE D ct ad G A y t) A) ([.ref (ad a), .int p0, .int p1, .int p2] : List Value).toArray s 0 0 A) (F0 m 226 ls [.int y42, .int x36, va_re ad (s19.2.2 a 0)]) := by
          intro H locs ls hP hD hS hl
          obtain rfl := Option.some.inj hF
          exact J37 _ _ _ hP hD hS (lv_sub hl [0, 1, 2, 3, 4, 5, 6, 7, 8, 9, 10, 11, 12, 13] rfl)
        clear hF
        have hF := hy42
        clear hy42
        refine lv_icmp_le (tgt := 224) hx hb dX6_fillPlane_215 (by decide) (fun c43 => ?_) (fun c43 => ?_)
        · rw [if_pos c43] at hF
          refine lv_iload hx hb dX6_fillPlane_224 (lv_at hl 0 rfl) ?_
          obtain rfl := Option.some.inj hF
          exact J42 _ _ _ hP hD hS (lv_sub hl [0, 1, 2, 3, 4, 5, 6, 7, 8, 9, 10, 11, 12, 13] rfl)
        · rw [if_neg c43] at hF
          refine lv_sipush (v := (255 : Int32)) hx hb dX6_fillPlane_218 (by decide) ?_
          refine lv_goto (tgt := 226) hx hb dX6_fillPlane_221 (by decide) ?_
          obtain rfl := Option.some.inj hF
          exact J42 _ _ _ hP hD hS (lv_sub hl [0, 1, 2, 3, 4, 5, 6, 7, 8, 9, 10, 11, 12, 13] rfl)
      · rw [if_neg c41] at hF
        refine lv_iconst (v := (0 : Int32)) hx hb dX6_fillPlane_206 (by decide) ?_
        refine lv_goto (tgt := 226) hx hb dX6_fillPlane_207 (by decide) ?_
        obtain rfl := Option.some.inj hF
        exact J37 _ _ _ hP hD hS (lv_sub hl [0, 1, 2, 3, 4, 5, 6, 7, 8, 9, 10, 11, 12, 13] rfl)
  clear hF
  refine itr_rule (fun (s3 : Int32 × Int32 × Int32) => ∀ (H : Heap) (locs : List Loc) (ls : Array Slot), va_P D classes (wld ct ad G M) H → va_D A (wld ct ad G M) → va_S A s.heap H locs → lv_has ls 14 [(7, .int s3.2.2), (6, .int s3.2.1), (5, .int s3.1), (4, .int x1), (0, .ref (ad a)), (1, .int p0), (2, .int p1), (3, .int p2)] → W p l e (headSpec wsX6_fillPlane ({ frames := 0, cells := 0, slots := 0, locals := 0 })).room s m ([.ref (ad a), .int p0, .int p1, .int p2] : List Value).toArray below meth c H locs 0 0 (MQ below (va_Qv (fun (_ : Unit) => True) (fun _ t => kE D ct ad G A y t) A) ([.ref (ad a), .int p0, .int p1, .int p2] : List Value).toArray s 0 0 A) (F0 m 14 ls [])) ?_ _ _ hy2 _ _ _ hP hD hS (lv_sub hl [0, 1, 2, 3, 4, 5, 6, 7] rfl)
  rintro s3 ⟨z44, hF, hwz44⟩ H locs ls hP hD hS hl
  try dsimp only at hF
  refine lv_iload hx hb dX6_fillPlane_14 (lv_at hl 0 rfl) ?_
  refine lv_iload hx hb dX6_fillPlane_16 (lv_at hl 3 rfl) ?_
  refine lv_icmp_gt (tgt := 93) hx hb dX6_fillPlane_18 (by decide) (fun c45 => ?_) (fun c45 => ?_)
  · rw [if_pos c45] at hF
    obtain rfl := Option.some.inj hF
    subst hwz44
    exact K2 _ _ _ hP hD hS (lv_sub hl [0, 1, 2, 3, 4, 5, 6, 7] rfl)
  · rw [if_neg c45] at hF
    refine lv_iload hx hb dX6_fillPlane_21 (lv_at hl 2 rfl) ?_
    refine lv_iload hx hb dX6_fillPlane_23 (lv_at hl 0 rfl) ?_
    refine lv_aload_n hx hb dX6_fillPlane_25 rfl (lv_at hl 4 rfl) ?_
    refine va_get (D := D) (ci := 6) (v := va_re ad (M.2 a 8)) (C := RX6) (T := TX6) (N := 14) hx hb hts (by decide +kernel) hown hK hP a (wld_o ct ad G M hc hk (by decide)) rfl 8 (by decide) (hts (.fieldLink RX6 36 "VideoSuite$Samples" "around" "[I") (by decide +kernel)) (fun _ h9 => h9) rfl dX6_fillPlane_26 ?_
    refine lv_iload hx hb dX6_fillPlane_29 (lv_at hl 3 rfl) ?_
    refine lv_iload hx hb dX6_fillPlane_31 (lv_at hl 0 rfl) ?_
    refine lv_iadd hx hb dX6_fillPlane_33 ?_
    obtain ⟨x46, ex46, hF⟩ := ltt_some hF
    refine lv_topi (fun zx46 ezx46 => ?_)
    obtain rfl : x46 = zx46 := ex46.trans ezx46.symm
    obtain ⟨b47, ho47, hc47, hk47, hF⟩ := dr_some hF
    refine W_st (st' := [.int x46, .ref (ad b47), .int s3.2.2, .int s3.1]) (by rw [va_some ho47]) ?_
    obtain ⟨hvc, hF⟩ := chk_some hF
    refine va_iald hx hb hK hP b47 1 (wld_i ct ad G M hc47 hk47) rfl hvc dX6_fillPlane_34 ?_
    obtain ⟨x48, ex48, hF⟩ := ltt_some hF
    refine lv_topi (fun zx48 ezx48 => ?_)
    obtain rfl : x48 = zx48 := ex48.trans ezx48.symm
    refine lv_aload_n hx hb dX6_fillPlane_35 rfl (lv_at hl 4 rfl) ?_
    refine va_get (D := D) (ci := 6) (v := va_re ad (M.2 a 8)) (C := RX6) (T := TX6) (N := 14) hx hb hts (by decide +kernel) hown hK hP a (wld_o ct ad G M hc hk (by decide)) rfl 8 (by decide) (hts (.fieldLink RX6 36 "VideoSuite$Samples" "around" "[I") (by decide +kernel)) (fun _ h9 => h9) rfl dX6_fillPlane_36 ?_
    refine lv_iload hx hb dX6_fillPlane_39 (lv_at hl 3 rfl) ?_
    refine lv_iload hx hb dX6_fillPlane_41 (lv_at hl 0 rfl) ?_
    refine lv_isub hx hb dX6_fillPlane_43 ?_
    obtain ⟨x49, ex49, hF⟩ := ltt_some hF
    refine lv_topi (fun zx49 ezx49 => ?_)
    obtain rfl : x49 = zx49 := ex49.trans ezx49.symm
    refine W_st (st' := [.int x49, .ref (ad b47), .int x48, .int s3.2.2, .int s3.1]) (by rw [va_some ho47]) ?_
    obtain ⟨hvc, hF⟩ := chk_some hF
    refine va_iald hx hb hK hP b47 1 (wld_i ct ad G M hc47 hk47) rfl hvc dX6_fillPlane_44 ?_
    obtain ⟨x50, ex50, hF⟩ := ltt_some hF
    refine lv_topi (fun zx50 ezx50 => ?_)
    obtain rfl : x50 = zx50 := ex50.trans ezx50.symm
    refine lv_isub hx hb dX6_fillPlane_45 ?_
    obtain ⟨x51, ex51, hF⟩ := ltt_some hF
    refine lv_topi (fun zx51 ezx51 => ?_)
    obtain rfl : x51 = zx51 := ex51.trans ezx51.symm
    refine lv_imul hx hb dX6_fillPlane_46 ?_
    obtain ⟨x52, ex52, hF⟩ := ltt_some hF
    refine lv_topi (fun zx52 ezx52 => ?_)
    obtain rfl : x52 = zx52 := ex52.trans ezx52.symm
    refine lv_iadd hx hb dX6_fillPlane_47 ?_
    obtain ⟨x53, ex53, hF⟩ := ltt_some hF
    refine lv_topi (fun zx53 ezx53 => ?_)
    obtain rfl : x53 = zx53 := ex53.trans ezx53.symm
    refine lv_istore (lv' := [(5, .int x53), (7, .int s3.2.2), (6, .int s3.2.1), (4, .int x1), (0, .ref (ad a)), (1, .int p0), (2, .int p1), (3, .int p2)]) hx hb dX6_fillPlane_48 hl (by decide) rfl (fun ls hl => ?_)
    refine lv_iload hx hb dX6_fillPlane_50 (lv_at hl 2 rfl) ?_
    refine lv_iload hx hb dX6_fillPlane_52 (lv_at hl 1 rfl) ?_
    refine lv_aload_n hx hb dX6_fillPlane_54 rfl (lv_at hl 4 rfl) ?_
    refine va_get (D := D) (ci := 6) (v := va_re ad (M.2 a 8)) (C := RX6) (T := TX6) (N := 14) hx hb hts (by decide +kernel) hown hK hP a (wld_o ct ad G M hc hk (by decide)) rfl 8 (by decide) (hts (.fieldLink RX6 36 "VideoSuite$Samples" "around" "[I") (by decide +kernel)) (fun _ h9 => h9) rfl dX6_fillPlane_55 ?_
    refine lv_iload_n hx hb dX6_fillPlane_58 rfl (lv_at hl 6 rfl) ?_
    refine lv_iconst (v := (1 : Int32)) hx hb dX6_fillPlane_59 (by decide) ?_
    refine lv_iadd hx hb dX6_fillPlane_60 ?_
    obtain ⟨x54, ex54, hF⟩ := ltt_some hF
    refine lv_topi (fun zx54 ezx54 => ?_)
    obtain rfl : x54 = zx54 := ex54.trans ezx54.symm
    refine lv_iload hx hb dX6_fillPlane_61 (lv_at hl 3 rfl) ?_
    refine lv_iadd hx hb dX6_fillPlane_63 ?_
    obtain ⟨x55, ex55, hF⟩ := ltt_some hF
    refine lv_topi (fun zx55 ezx55 => ?_)
    obtain rfl : x55 = zx55 := ex55.trans ezx55.symm
    refine lv_iload hx hb dX6_fillPlane_64 (lv_at hl 1 rfl) ?_
    refine lv_iadd hx hb dX6_fillPlane_66 ?_
    obtain ⟨x56, ex56, hF⟩ := ltt_some hF
    refine lv_topi (fun zx56 ezx56 => ?_)
    obtain rfl : x56 = zx56 := ex56.trans ezx56.symm
    refine W_st (st' := [.int x56, .ref (ad b47), .int s3.2.2, .int s3.2.1]) (by rw [va_some ho47]) ?_
    obtain ⟨hvc, hF⟩ := chk_some hF
    refine va_iald hx hb hK hP b47 1 (wld_i ct ad G M hc47 hk47) rfl hvc dX6_fillPlane_67 ?_
    obtain ⟨x57, ex57, hF⟩ := ltt_some hF
    refine lv_topi (fun zx57 ezx57 => ?_)
    obtain rfl : x57 = zx57 := ex57.trans ezx57.symm
    refine lv_aload_n hx hb dX6_fillPlane_68 rfl (lv_at hl 4 rfl) ?_
    refine va_get (D := D) (ci := 6) (v := va_re ad (M.2 a 8)) (C := RX6) (T := TX6) (N := 14) hx hb hts (by decide +kernel) hown hK hP a (wld_o ct ad G M hc hk (by decide)) rfl 8 (by decide) (hts (.fieldLink RX6 36 "VideoSuite$Samples" "around" "[I") (by decide +kernel)) (fun _ h9 => h9) rfl dX6_fillPlane_69 ?_
    refine lv_iload_n hx hb dX6_fillPlane_72 rfl (lv_at hl 6 rfl) ?_
    refine lv_iconst (v := (1 : Int32)) hx hb dX6_fillPlane_73 (by decide) ?_
    refine lv_iadd hx hb dX6_fillPlane_74 ?_
    obtain ⟨x58, ex58, hF⟩ := ltt_some hF
    refine lv_topi (fun zx58 ezx58 => ?_)
    obtain rfl : x58 = zx58 := ex58.trans ezx58.symm
    refine lv_iload hx hb dX6_fillPlane_75 (lv_at hl 3 rfl) ?_
    refine lv_iadd hx hb dX6_fillPlane_77 ?_
    obtain ⟨x59, ex59, hF⟩ := ltt_some hF
    refine lv_topi (fun zx59 ezx59 => ?_)
    obtain rfl : x59 = zx59 := ex59.trans ezx59.symm
    refine lv_iload hx hb dX6_fillPlane_78 (lv_at hl 1 rfl) ?_
    refine lv_isub hx hb dX6_fillPlane_80 ?_
    obtain ⟨x60, ex60, hF⟩ := ltt_some hF
    refine lv_topi (fun zx60 ezx60 => ?_)
    obtain rfl : x60 = zx60 := ex60.trans ezx60.symm
    refine W_st (st' := [.int x60, .ref (ad b47), .int x57, .int s3.2.2, .int s3.2.1]) (by rw [va_some ho47]) ?_
    obtain ⟨hvc, hF⟩ := chk_some hF
    refine va_iald hx hb hK hP b47 1 (wld_i ct ad G M hc47 hk47) rfl hvc dX6_fillPlane_81 ?_
    obtain ⟨x61, ex61, hF⟩ := ltt_some hF
    refine lv_topi (fun zx61 ezx61 => ?_)
    obtain rfl : x61 = zx61 := ex61.trans ezx61.symm
    refine lv_isub hx hb dX6_fillPlane_82 ?_
    obtain ⟨x62, ex62, hF⟩ := ltt_some hF
    refine lv_topi (fun zx62 ezx62 => ?_)
    obtain rfl : x62 = zx62 := ex62.trans ezx62.symm
    refine lv_imul hx hb dX6_fillPlane_83 ?_
    obtain ⟨x63, ex63, hF⟩ := ltt_some hF
    refine lv_topi (fun zx63 ezx63 => ?_)
    obtain rfl : x63 = zx63 := ex63.trans ezx63.symm
    refine lv_iadd hx hb dX6_fillPlane_84 ?_
    obtain ⟨x64, ex64, hF⟩ := ltt_some hF
    refine lv_topi (fun zx64 ezx64 => ?_)
    obtain rfl : x64 = zx64 := ex64.trans ezx64.symm
    refine lv_istore (lv' := [(6, .int x64), (5, .int x53), (7, .int s3.2.2), (4, .int x1), (0, .ref (ad a)), (1, .int p0), (2, .int p1), (3, .int p2)]) hx hb dX6_fillPlane_85 hl (by decide) rfl (fun ls hl => ?_)
    obtain ⟨x65, ex65, hF⟩ := ltt_some hF
    refine lv_iinc (v := x65) (lv' := [(7, .int x65), (6, .int x64), (5, .int x53), (4, .int x1), (0, .ref (ad a)), (1, .int p0), (2, .int p1), (3, .int p2)]) hx hb dX6_fillPlane_87 hl (k := 2) rfl (by rw [ex65]; rfl) (by decide) rfl (fun ls hl => ?_)
    refine lv_goto (tgt := 14) hx hb dX6_fillPlane_90 (by decide) ?_
    obtain rfl := Option.some.inj hF
    exact hwz44 _ _ _ hP hD hS (lv_sub hl [0, 1, 2, 3, 4, 5, 6, 7] rfl)
theorem dX6_fillWindow_0 : decode cX6_fillWindow 0 = .ok (.aload_n 1, 1) := by decide +kernel
theorem dX6_fillWindow_1 : decode cX6_fillWindow 1 = .ok (.getfield 121, 3) := by decide +kernel
theorem dX6_fillWindow_4 : decode cX6_fillWindow 4 = .ok (.iconst 0, 1) := by decide +kernel
theorem dX6_fillWindow_5 : decode cX6_fillWindow 5 = .ok (.aaload, 1) := by decide +kernel
theorem dX6_fillWindow_6 : decode cX6_fillWindow 6 = .ok (.astore 5, 2) := by decide +kernel
theorem dX6_fillWindow_8 : decode cX6_fillWindow 8 = .ok (.bipush 16, 2) := by decide +kernel
theorem dX6_fillWindow_10 : decode cX6_fillWindow 10 = .ok (.aload_n 1, 1) := by decide +kernel
theorem dX6_fillWindow_11 : decode cX6_fillWindow 11 = .ok (.getfield 83, 3) := by decide +kernel
theorem dX6_fillWindow_14 : decode cX6_fillWindow 14 = .ok (.imul, 1) := by decide +kernel
theorem dX6_fillWindow_15 : decode cX6_fillWindow 15 = .ok (.istore 6, 2) := by decide +kernel
theorem dX6_fillWindow_17 : decode cX6_fillWindow 17 = .ok (.bipush 16, 2) := by decide +kernel
theorem dX6_fillWindow_19 : decode cX6_fillWindow 19 = .ok (.aload_n 1, 1) := by decide +kernel
theorem dX6_fillWindow_20 : decode cX6_fillWindow 20 = .ok (.getfield 125, 3) := by decide +kernel
theorem dX6_fillWindow_23 : decode cX6_fillWindow 23 = .ok (.imul, 1) := by decide +kernel
theorem dX6_fillWindow_24 : decode cX6_fillWindow 24 = .ok (.istore 7, 2) := by decide +kernel
theorem dX6_fillWindow_26 : decode cX6_fillWindow 26 = .ok (.iconst 0, 1) := by decide +kernel
theorem dX6_fillWindow_27 : decode cX6_fillWindow 27 = .ok (.istore 8, 2) := by decide +kernel
theorem dX6_fillWindow_29 : decode cX6_fillWindow 29 = .ok (.iload 8, 2) := by decide +kernel
theorem dX6_fillWindow_31 : decode cX6_fillWindow 31 = .ok (.iload 4, 2) := by decide +kernel
theorem dX6_fillWindow_33 : decode cX6_fillWindow 33 = .ok (.if_icmp .ge 111, 3) := by decide +kernel
theorem dX6_fillWindow_36 : decode cX6_fillWindow 36 = .ok (.iload_n 3, 1) := by decide +kernel
theorem dX6_fillWindow_37 : decode cX6_fillWindow 37 = .ok (.iload 8, 2) := by decide +kernel
theorem dX6_fillWindow_39 : decode cX6_fillWindow 39 = .ok (.iadd, 1) := by decide +kernel
theorem dX6_fillWindow_40 : decode cX6_fillWindow 40 = .ok (.istore 9, 2) := by decide +kernel
theorem dX6_fillWindow_42 : decode cX6_fillWindow 42 = .ok (.iload 9, 2) := by decide +kernel
theorem dX6_fillWindow_44 : decode cX6_fillWindow 44 = .ok (.ifCond .ge 7, 3) := by decide +kernel
theorem dX6_fillWindow_47 : decode cX6_fillWindow 47 = .ok (.iconst 0, 1) := by decide +kernel
theorem dX6_fillWindow_48 : decode cX6_fillWindow 48 = .ok (.goto 19, 3) := by decide +kernel
theorem dX6_fillWindow_51 : decode cX6_fillWindow 51 = .ok (.iload 9, 2) := by decide +kernel
theorem dX6_fillWindow_53 : decode cX6_fillWindow 53 = .ok (.iload 7, 2) := by decide +kernel
theorem dX6_fillWindow_55 : decode cX6_fillWindow 55 = .ok (.if_icmp .lt 10, 3) := by decide +kernel
theorem dX6_fillWindow_58 : decode cX6_fillWindow 58 = .ok (.iload 7, 2) := by decide +kernel
theorem dX6_fillWindow_60 : decode cX6_fillWindow 60 = .ok (.iconst 1, 1) := by decide +kernel
theorem dX6_fillWindow_61 : decode cX6_fillWindow 61 = .ok (.isub, 1) := by decide +kernel
theorem dX6_fillWindow_62 : decode cX6_fillWindow 62 = .ok (.goto 5, 3) := by decide +kernel
theorem dX6_fillWindow_65 : decode cX6_fillWindow 65 = .ok (.iload 9, 2) := by decide +kernel
theorem dX6_fillWindow_67 : decode cX6_fillWindow 67 = .ok (.iload 6, 2) := by decide +kernel
theorem dX6_fillWindow_69 : decode cX6_fillWindow 69 = .ok (.imul, 1) := by decide +kernel
theorem dX6_fillWindow_70 : decode cX6_fillWindow 70 = .ok (.istore 10, 2) := by decide +kernel
theorem dX6_fillWindow_72 : decode cX6_fillWindow 72 = .ok (.iconst 0, 1) := by decide +kernel
theorem dX6_fillWindow_73 : decode cX6_fillWindow 73 = .ok (.istore 11, 2) := by decide +kernel
theorem dX6_fillWindow_75 : decode cX6_fillWindow 75 = .ok (.iload 11, 2) := by decide +kernel
theorem dX6_fillWindow_77 : decode cX6_fillWindow 77 = .ok (.iload 4, 2) := by decide +kernel
theorem dX6_fillWindow_79 : decode cX6_fillWindow 79 = .ok (.if_icmp .ge 59, 3) := by decide +kernel
theorem dX6_fillWindow_82 : decode cX6_fillWindow 82 = .ok (.iload_n 2, 1) := by decide +kernel
theorem dX6_fillWindow_83 : decode cX6_fillWindow 83 = .ok (.iload 11, 2) := by decide +kernel
theorem dX6_fillWindow_85 : decode cX6_fillWindow 85 = .ok (.iadd, 1) := by decide +kernel
theorem dX6_fillWindow_86 : decode cX6_fillWindow 86 = .ok (.istore 12, 2) := by decide +kernel
theorem dX6_fillWindow_88 : decode cX6_fillWindow 88 = .ok (.aload_n 0, 1) := by decide +kernel
theorem dX6_fillWindow_89 : decode cX6_fillWindow 89 = .ok (.getfield 21, 3) := by decide +kernel
theorem dX6_fillWindow_92 : decode cX6_fillWindow 92 = .ok (.iload 8, 2) := by decide +kernel
theorem dX6_fillWindow_94 : decode cX6_fillWindow 94 = .ok (.bipush 21, 2) := by decide +kernel
theorem dX6_fillWindow_96 : decode cX6_fillWindow 96 = .ok (.imul, 1) := by decide +kernel
theorem dX6_fillWindow_97 : decode cX6_fillWindow 97 = .ok (.iload 11, 2) := by decide +kernel
theorem dX6_fillWindow_99 : decode cX6_fillWindow 99 = .ok (.iadd, 1) := by decide +kernel
theorem dX6_fillWindow_100 : decode cX6_fillWindow 100 = .ok (.aload 5, 2) := by decide +kernel
theorem dX6_fillWindow_102 : decode cX6_fillWindow 102 = .ok (.iload 10, 2) := by decide +kernel
theorem dX6_fillWindow_104 : decode cX6_fillWindow 104 = .ok (.iload 12, 2) := by decide +kernel
theorem dX6_fillWindow_106 : decode cX6_fillWindow 106 = .ok (.ifCond .ge 7, 3) := by decide +kernel
theorem dX6_fillWindow_109 : decode cX6_fillWindow 109 = .ok (.iconst 0, 1) := by decide +kernel
theorem dX6_fillWindow_110 : decode cX6_fillWindow 110 = .ok (.goto 19, 3) := by decide +kernel
theorem dX6_fillWindow_113 : decode cX6_fillWindow 113 = .ok (.iload 12, 2) := by decide +kernel
theorem dX6_fillWindow_115 : decode cX6_fillWindow 115 = .ok (.iload 6, 2) := by decide +kernel
theorem dX6_fillWindow_117 : decode cX6_fillWindow 117 = .ok (.if_icmp .lt 10, 3) := by decide +kernel
theorem dX6_fillWindow_120 : decode cX6_fillWindow 120 = .ok (.iload 6, 2) := by decide +kernel
theorem dX6_fillWindow_122 : decode cX6_fillWindow 122 = .ok (.iconst 1, 1) := by decide +kernel
theorem dX6_fillWindow_123 : decode cX6_fillWindow 123 = .ok (.isub, 1) := by decide +kernel
theorem dX6_fillWindow_124 : decode cX6_fillWindow 124 = .ok (.goto 5, 3) := by decide +kernel
theorem dX6_fillWindow_127 : decode cX6_fillWindow 127 = .ok (.iload 12, 2) := by decide +kernel
theorem dX6_fillWindow_129 : decode cX6_fillWindow 129 = .ok (.iadd, 1) := by decide +kernel
theorem dX6_fillWindow_130 : decode cX6_fillWindow 130 = .ok (.iaload, 1) := by decide +kernel
theorem dX6_fillWindow_131 : decode cX6_fillWindow 131 = .ok (.iastore, 1) := by decide +kernel
theorem dX6_fillWindow_132 : decode cX6_fillWindow 132 = .ok (.iinc 11 1, 3) := by decide +kernel
theorem dX6_fillWindow_135 : decode cX6_fillWindow 135 = .ok (.goto (-60), 3) := by decide +kernel
theorem dX6_fillWindow_138 : decode cX6_fillWindow 138 = .ok (.iinc 8 1, 3) := by decide +kernel
theorem dX6_fillWindow_141 : decode cX6_fillWindow 141 = .ok (.goto (-112), 3) := by decide +kernel
theorem dX6_fillWindow_144 : decode cX6_fillWindow 144 = .ok (.return_, 1) := by decide +kernel
def FX6_fillWindow (G : GG) (M : DD) (a : Nat) (p0 : Option Nat) (p1 : Int32) (p2 : Int32) (p3 : Int32) : Option (DD) :=
  dr G 4 p0 fun b1 =>
  dr G 15 ((M.2 b1 4)) fun b2 =>
  chk (¬ (((0 : Int32)) < 0 ∨ G.2.2 b2 ≤ ((0 : Int32)).toNatClampNeg)) <|
  ltt (M.1 b1 1) fun x3 =>
  ltt ((((16 : Int32)) * x3)) fun x4 =>
  ltt (M.1 b1 2) fun x5 =>
  ltt ((((16 : Int32)) * x5)) fun x6 =>
  bnd (itr (fun (s8 : Int32 × DD) => ((if p3 ≤ s8.1 then (some (.inr (s8.1, s8.2))) else
  (ltt ((p2 + s8.1)) fun x12 =>
  bnd (if ((0 : Int32)) ≤ x12 then (bnd (if x12 < x6 then (some (x12)) else
  (ltt ((x6 - ((1 : Int32)))) fun x38 =>
  some (x38))) fun (y36 : Int32) =>
  some (y36)) else
  (some ((0 : Int32)))) fun (y13 : Int32) =>
  ltt ((y13 * x4)) fun x14 =>
  bnd (itr (fun (s16 : Int32 × DD) => ((if p3 ≤ s16.1 then (some (.inr (s16.1, s16.2))) else
  (ltt ((p1 + s16.1)) fun x21 =>
  ltt ((s8.1 * ((21 : Int32)))) fun x22 =>
  ltt ((x22 + s16.1)) fun x23 =>
  bnd (if ((0 : Int32)) ≤ x21 then (bnd (if x21 < x4 then (some (x21)) else
  (ltt ((x4 - ((1 : Int32)))) fun x34 =>
  some (x34))) fun (y32 : Int32) =>
  some (y32)) else
  (some ((0 : Int32)))) fun (y24 : Int32) =>
  ltt ((x14 + y24)) fun x25 =>
  dr G 13 ((M.2 b2 ((0 : Int32)).toNatClampNeg)) fun b26 =>
  chk (¬ (x25 < 0 ∨ G.2.2 b26 ≤ x25.toNatClampNeg)) <|
  ltt (s16.2.1 b26 x25.toNatClampNeg) fun x27 =>
  dr G 13 ((s16.2.2 a 3)) fun b28 =>
  chk (¬ (x23 < 0 ∨ G.2.2 b28 ≤ x23.toNatClampNeg)) <|
  ltt (uI s16.2 b28 x23.toNatClampNeg x27) fun M29 =>
  ltt (s16.1 + (1 : Int32)) fun x30 =>
  some (.inl (x30, M29)))) : Option ((Int32 × DD) ⊕ (Int32 × DD)))) 1000000 ((0 : Int32), s8.2)) fun (y15 : Int32 × DD) =>
  ltt (s8.1 + (1 : Int32)) fun x18 =>
  some (.inl (x18, y15.2)))) : Option ((Int32 × DD) ⊕ (Int32 × DD)))) 1000000 ((0 : Int32), M)) fun (y7 : Int32 × DD) =>
  some y7.2
set_option maxHeartbeats 4000000 in
set_option maxRecDepth 100000 in
theorem kX6_fillWindow (l : Launch) (D : va_G) (ct : CT) (ad : Nat → Nat) (Z : Nat → Nat) (G : GG) (M : DD) (sz : Nat) (a : Nat) (p0 : Option Nat) (p1 : Int32) (p2 : Int32) (p3 : Int32) (y : DD) (hc : a < G.1) (hk : G.2.1 a = 6) (hF : FX6_fillWindow G M a p0 p1 p2 p3 = some y) : Met l yX6_fillWindow wsX6_fillWindow ({ frames := 0, cells := 0, slots := 0, locals := 0 }) (va_Pc [.ref (ad a), va_re ad p0, .int p1, .int p2, .int p3] (kB D ct ad Z G M sz)) (va_Qv (fun (_ : Unit) => True) (fun _ t => kE D ct ad G (wA ad G sz) y t) (wA ad G sz)) 0 0 (wA ad G sz) := by
  refine Met.ofW (cc := cX6_fillWindow) (maxL := 13) (ret := none) (by decide) rfl ?_
  intro p e s m args below meth c s₁ B hml hv
  obtain ⟨rfl, hsz, hP, hK, hD0, hZ, hN⟩ := hv
  have hx := B.exec
  have hb := B.bytes
  have hr := B.returns
  have hts := atoms_spec (ws := wsX6_fillWindow) B.pre
  have hown : s.vm.findClass RX6 = some m.cls := findClass_of_methodNamed B.named
  have hlocks := B.notSynchronized
  subst hsz
  have hD := wD_self (sz := s.heap.size) hD0
  have hA9 : ∀ q, s.heap.size ≤ q → wA ad G s.heap.size q := fun q h => Or.inr h
  generalize hAe : wA ad G s.heap.size = A at hD hA9 hZ ⊢
  have hS : va_S A s.heap s.heap [] := va_S.rf
  have hl := lv_entry ([.ref (ad a), va_re ad p0, .int p1, .int p2, .int p3]) (n := 13) (by cases p0 <;> exact Nat.le_of_ble_eq_true rfl)
  rw [lg_entry_eq]
  generalize (lg_sl ([.ref (ad a), va_re ad p0, .int p1, .int p2, .int p3]) ++ List.replicate (13 - (lg_sl ([.ref (ad a), va_re ad p0, .int p1, .int p2, .int p3])).length) Slot.unset).toArray = ls at hl ⊢
  have hl : lv_has ls 13 [(0, .ref (ad a)), (1, va_re ad p0), (2, .int p1), (3, .int p2), (4, .int p3)] := by have e9 : lv_args 0 [.ref (ad a), va_re ad p0, .int p1, .int p2, .int p3] = [(0, .ref (ad a)), (1, va_re ad p0), (2, .int p1), (3, .int p2), (4, .int p3)] := (by cases p0 <;> rfl); rw [e9] at hl; exact hl
  unfold FX6_fillWindow at hF
  refine lv_aloadq_n hx hb dX6_fillWindow_0 rfl (lv_at hl 1 rfl) ?_
  obtain ⟨b1, ho1, hc1, hk1, hF⟩ := dr_some hF
  refine W_st (st' := [.ref (ad b1)]) (by rw [va_some ho1]) ?_
  refine va_get (D := D) (ci := 4) (v := va_re ad (M.2 b1 4)) (C := RX4) (T := TX4) (N := 18) hx hb hts (by decide +kernel) hown hK hP b1 (wld_o ct ad G M hc1 hk1 (by decide)) rfl 4 (by decide) (hts (.fieldLink RX6 121 "VideoSuite$Picture" "plane" "[[I") (by decide +kernel)) (fun _ h9 => h9) rfl dX6_fillWindow_1 ?_
  refine lv_iconst (v := (0 : Int32)) hx hb dX6_fillWindow_4 (by decide) ?_
  obtain ⟨b2, ho2, hc2, hk2, hF⟩ := dr_some hF
  refine W_st (st' := [.int (0 : Int32), .ref (ad b2)]) (by rw [va_some ho2]) ?_
  obtain ⟨hvc, hF⟩ := chk_some hF
  refine ld_g hx hb hK hP hc2 hk2 hvc dX6_fillWindow_5 ?_
  refine lv_astoreq (lv' := [(5, va_re ad (M.2 b2 ((0 : Int32)).toNatClampNeg)), (0, .ref (ad a)), (1, va_re ad p0), (2, .int p1), (3, .int p2), (4, .int p3)]) hx hb dX6_fillWindow_6 hl (by decide) rfl (fun ls hl => ?_)
  refine lv_bipush (v := (16 : Int32)) hx hb dX6_fillWindow_8 (by decide) ?_
  refine lv_aloadq_n hx hb dX6_fillWindow_10 rfl (lv_at hl 2 rfl) ?_
  refine W_st (st' := [.ref (ad b1), .int (16 : Int32)]) (by rw [va_some ho1]) ?_
  refine va_get (D := D) (ci := 4) (v := .int (M.1 b1 1)) (C := RX4) (T := TX4) (N := 18) hx hb hts (by decide +kernel) hown hK hP b1 (wld_o ct ad G M hc1 hk1 (by decide)) rfl 1 (by decide) (hts (.fieldLink RX6 83 "VideoSuite$Picture" "width" "I") (by decide +kernel)) (fun _ h9 => h9) rfl dX6_fillWindow_11 ?_
  obtain ⟨x3, ex3, hF⟩ := ltt_some hF
  refine lv_topi (fun zx3 ezx3 => ?_)
  obtain rfl : x3 = zx3 := ex3.trans ezx3.symm
  refine lv_imul hx hb dX6_fillWindow_14 ?_
  obtain ⟨x4, ex4, hF⟩ := ltt_some hF
  refine lv_topi (fun zx4 ezx4 => ?_)
  obtain rfl : x4 = zx4 := ex4.trans ezx4.symm
  refine lv_istore (lv' := [(6, .int x4), (5, va_re ad (M.2 b2 ((0 : Int32)).toNatClampNeg)), (0, .ref (ad a)), (1, va_re ad p0), (2, .int p1), (3, .int p2), (4, .int p3)]) hx hb dX6_fillWindow_15 hl (by decide) (by generalize ((M.2 b2 ((0 : Int32)).toNatClampNeg)) = o9; cases o9 <;> rfl) (fun ls hl => ?_)
  refine lv_bipush (v := (16 : Int32)) hx hb dX6_fillWindow_17 (by decide) ?_
  refine lv_aloadq_n hx hb dX6_fillWindow_19 rfl (lv_at hl 3 rfl) ?_
  refine W_st (st' := [.ref (ad b1), .int (16 : Int32)]) (by rw [va_some ho1]) ?_
  refine va_get (D := D) (ci := 4) (v := .int (M.1 b1 2)) (C := RX4) (T := TX4) (N := 18) hx hb hts (by decide +kernel) hown hK hP b1 (wld_o ct ad G M hc1 hk1 (by decide)) rfl 2 (by decide) (hts (.fieldLink RX6 125 "VideoSuite$Picture" "height" "I") (by decide +kernel)) (fun _ h9 => h9) rfl dX6_fillWindow_20 ?_
  obtain ⟨x5, ex5, hF⟩ := ltt_some hF
  refine lv_topi (fun zx5 ezx5 => ?_)
  obtain rfl : x5 = zx5 := ex5.trans ezx5.symm
  refine lv_imul hx hb dX6_fillWindow_23 ?_
  obtain ⟨x6, ex6, hF⟩ := ltt_some hF
  refine lv_topi (fun zx6 ezx6 => ?_)
  obtain rfl : x6 = zx6 := ex6.trans ezx6.symm
  refine lv_istore (lv' := [(7, .int x6), (6, .int x4), (5, va_re ad (M.2 b2 ((0 : Int32)).toNatClampNeg)), (0, .ref (ad a)), (1, va_re ad p0), (2, .int p1), (3, .int p2), (4, .int p3)]) hx hb dX6_fillWindow_24 hl (by decide) rfl (fun ls hl => ?_)
  refine lv_iconst (v := (0 : Int32)) hx hb dX6_fillWindow_26 (by decide) ?_
  refine lv_istore (lv' := [(8, .int (0 : Int32)), (7, .int x6), (6, .int x4), (5, va_re ad (M.2 b2 ((0 : Int32)).toNatClampNeg)), (0, .ref (ad a)), (1, va_re ad p0), (2, .int p1), (3, .int p2), (4, .int p3)]) hx hb dX6_fillWindow_27 hl (by decide) rfl (fun ls hl => ?_)
  obtain ⟨y7, hy7, hF⟩ := bnd_some hF
  have K7 : ∀ (H : Heap) (locs : List Loc) (ls : Array Slot), va_P D classes (wld ct ad G y7.2) H → va_D A (wld ct ad G y7.2) → va_S A s.heap H locs → lv_has ls 13 [(8, .int y7.1), (7, .int x6), (6, .int x4), (5, va_re ad (M.2 b2 ((0 : Int32)).toNatClampNeg)), (0, .ref (ad a)), (1, va_re ad p0), (2, .int p1), (3, .int p2), (4, .int p3)] → W p l e (headSpec wsX6_fillWindow ({ frames := 0, cells := 0, slots := 0, locals := 0 })).room s m ([.ref (ad a), va_re ad p0, .int p1, .int p2, .int p3] : List Value).toArray below meth c H locs 0 0 (MQ below (va_Qv (fun (_ : Unit) => True) (fun _ t => kE D ct ad G A y t) A) ([.ref (ad a), va_re ad p0, .int p1, .int p2, .int p3] : List Value).toArray s 0 0 A) (F0 m 144 ls []) := by
    intro H locs ls hP hD hS hl
    obtain rfl := Option.some.inj hF
    exact W.vret hx hb hr (fun t ht hW => ⟨⟨(), rfl, trivial, ⟨by rw [ht]; exact hP, va_K.moved hW.alike hK, hD⟩⟩, hS.F ht⟩) hS.2.2 dX6_fillWindow_144
  clear hF
  refine itr_rule (fun (s8 : Int32 × DD) => ∀ (H : Heap) (locs : List Loc) (ls : Array Slot), va_P D classes (wld ct ad G s8.2) H → va_D A (wld ct ad G s8.2) → va_S A s.heap H locs → lv_has ls 13 [(8, .int s8.1), (7, .int x6), (6, .int x4), (5, va_re ad (M.2 b2 ((0 : Int32)).toNatClampNeg)), (0, .ref (ad a)), (1, va_re ad p0), (2, .int p1), (3, .int p2), (4, .int p3)] → W p l e (headSpec wsX6_fillWindow ({ frames := 0, cells := 0, slots := 0, locals := 0 })).room s m ([.ref (ad a), va_re ad p0, .int p1, .int p2, .int p3] : List Value).toArray below meth c H locs 0 0 (MQ below (va_Qv (fun (_ : Unit) => True) (fun _ t => kE D ct ad G A y t) A) ([.ref (ad a), va_re ad p0, .int p1, .int p2, .int p3] : List Value).toArray s 0 0 A) (F0 m 29 ls [])) ?_ _ _ hy7 _ _ _ hP hD hS (lv_sub hl [0, 1, 2, 3, 4, 5, 6, 7, 8] rfl)
  rintro s8 ⟨z10, hF, hwz10⟩ H locs ls hP hD hS hl
  try dsimp only at hF
  refine lv_iload hx hb dX6_fillWindow_29 (lv_at hl 0 rfl) ?_
  refine lv_iload hx hb dX6_fillWindow_31 (lv_at hl 8 rfl) ?_
  refine lv_icmp_ge (tgt := 144) hx hb dX6_fillWindow_33 (by decide) (fun c11 => ?_) (fun c11 => ?_)
  · rw [if_pos c11] at hF
    obtain rfl := Option.some.inj hF
    subst hwz10
    exact K7 _ _ _ hP hD hS (lv_sub hl [0, 1, 2, 3, 4, 5, 6, 7, 8] rfl)
  · rw [if_neg c11] at hF
    refine lv_iload_n hx hb dX6_fillWindow_36 rfl (lv_at hl 7 rfl) ?_
    refine lv_iload hx hb dX6_fillWindow_37 (lv_at hl 0 rfl) ?_
    refine lv_iadd hx hb dX6_fillWindow_39 ?_
    obtain ⟨x12, ex12, hF⟩ := ltt_some hF
    refine lv_topi (fun zx12 ezx12 => ?_)
    obtain rfl : x12 = zx12 := ex12.trans ezx12.symm
    refine lv_istore (lv' := [(9, .int x12), (8, .int s8.1), (7, .int x6), (6, .int x4), (5, va_re ad (M.2 b2 ((0 : Int32)).toNatClampNeg)), (0, .ref (ad a)), (1, va_re ad p0), (2, .int p1), (3, .int p2), (4, .int p3)]) hx hb dX6_fillWindow_40 hl (by decide) rfl (fun ls hl => ?_)
    refine lv_iload hx hb dX6_fillWindow_42 (lv_at hl 0 rfl) ?_
    obtain ⟨y13, hy13, hF⟩ := bnd_some hF
    have J13 : ∀ (H : Heap) (locs : List Loc) (ls : Array Slot), va_P D classes (wld ct ad G s8.2) H → va_D A (wld ct ad G s8.2) → va_S A s.heap H locs → lv_has ls 13 [(9, .int x12), (8, .int s8.1), (7, .int x6), (6, .int x4), (5, va_re ad (M.2 b2 ((0 : Int32)).toNatClampNeg)), (0, .ref (ad a)), (1, va_re ad p0), (2, .int p1), (3, .int p2), (4, .int p3)] → W p l e (headSpec wsX6_fillWindow ({ frames := 0, cells := 0, slots := 0, locals := 0 })).room s m ([.ref (ad a), va_re ad p0, .int p1, .int p2, .int p3] : List Value).toArray below meth c H locs 0 0 (MQ below (va_Qv (fun (_ : Unit) => True) (fun _ t => kE D ct ad G A y t) A) ([.ref (ad a), va_re ad p0, .int p1, .int p2, .int p3] : List Value).toArray s 0 0 A) (F0 m 67 ls [.int y13]) := by
      intro H locs ls hP hD hS hl
      refine lv_iload hx hb dX6_fillWindow_67 (lv_at hl 3 rfl) ?_
      refine lv_imul hx hb dX6_fillWindow_69 ?_
      obtain ⟨x14, ex14, hF⟩ := ltt_some hF
      refine lv_topi (fun zx14 ezx14 => ?_)
      obtain rfl : x14 = zx14 := ex14.trans ezx14.symm
      refine lv_istore (lv' := [(10, .int x14), (9, .int x12), (8, .int s8.1), (7, .int x6), (6, .int x4), (5, va_re ad (M.2 b2 ((0 : Int32)).toNatClampNeg)), (0, .ref (ad a)), (1, va_re ad p0), (2, .int p1), (3, .int p2), (4, .int p3)]) hx hb dX6_fillWindow_70 hl (by decide) rfl (fun ls hl => ?_)
      refine lv_iconst (v := (0 : Int32)) hx hb dX6_fillWindow_72 (by decide) ?_
      refine lv_istore (lv' := [(11, .int (0 : Int32)), (10, .int x14), (9, .int x12), (8, .int s8.1), (7, .int x6), (6, .int x4), (5, va_re ad (M.2 b2 ((0 : Int32)).toNatClampNeg)), (0, .ref (ad a)), (1, va_re ad p0), (2, .int p1), (3, .int p2), (4, .int p3)]) hx hb dX6_fillWindow_73 hl (by decide) rfl (fun ls hl => ?_)
      obtain ⟨y15, hy15, hF⟩ := bnd_some hF
      have K15 : ∀ (H : Heap) (locs : List Loc) (ls : Array Slot), va_P D classes (wld ct ad G y15.2) H → va_D A (wld ct ad G y15.2) → va_S A s.heap H locs → lv_has ls 13 [(11, .int y15.1), (10, .int x14), (9, .int x12), (8, .int s8.1), (7, .int x6), (6, .int x4), (5, va_re ad (M.2 b2 ((0 : Int32)).toNatClampNeg)), (0, .ref (ad a)), (1, va_re ad p0), (2, .int p1), (3, .int p2), (4, .int p3)] → W p l e (headSpec wsX6_fillWindow ({ frames := 0, cells := 0, slots := 0, locals := 0 })).room s m ([.ref (ad a), va_re ad p0, .int p1, .int p2, .int p3] : List Value).toArray below meth c H locs 0 0 (MQ below (va_Qv (fun (_ : Unit) => True) (fun _ t => kE D ct ad G A y t) A) ([.ref (ad a), va_re ad p0, .int p1, .int p2, .int p3] : List Value).toArray s 0 0 A) (F0 m 138 ls []) := by
        intro H locs ls hP hD hS hl
        obtain ⟨x18, ex18, hF⟩ := ltt_some hF
        refine lv_iinc (v := x18) (lv' := [(8, .int x18), (11, .int y15.1), (10, .int x14), (9, .int x12), (7, .int x6), (6, .int x4), (5, va_re ad (M.2 b2 ((0 : Int32)).toNatClampNeg)), (0, .ref (ad a)), (1, va_re ad p0), (2, .int p1), (3, .int p2), (4, .int p3)]) hx hb dX6_fillWindow_138 hl (k := 3) rfl (by rw [ex18]; rfl) (by decide) rfl (fun ls hl => ?_)
        refine lv_goto (tgt := 29) hx hb dX6_fillWindow_141 (by decide) ?_
        obtain rfl := Option.some.inj hF
        exact hwz10 _ _ _ hP hD hS (lv_sub hl [0, 4, 5, 6, 7, 8, 9, 10, 11] rfl)
      clear hF
      refine itr_rule (fun (s16 : Int32 × DD) => ∀ (H : Heap) (locs : List Loc) (ls : Array Slot), va_P D classes (wld ct ad G s16.2) H → va_D A (wld ct ad G s16.2) → va_S A s.heap H locs → lv_has ls 13 [(11, .int s16.1), (10, .int x14), (9, .int x12), (8, .int s8.1), (7, .int x6), (6, .int x4), (5, va_re ad (M.2 b2 ((0 : Int32)).toNatClampNeg)), (0, .ref (ad a)), (1, va_re ad p0), (2, .int p1), (3, .int p2), (4, .int p3)] → W p l e (headSpec wsX6_fillWindow ({ frames := 0, cells := 0, slots := 0, locals := 0 })).room s m ([.ref (ad a), va_re ad p0, .int p1, .int p2, .int p3] : List Value).toArray below meth c H locs 0 0 (MQ below (va_Qv (fun (_ : Unit) => True) (fun _ t => kE D ct ad G A y t) A) ([.ref (ad a), va_re ad p0, .int p1, .int p2, .int p3] : List Value).toArray s 0 0 A) (F0 m 75 ls [])) ?_ _ _ hy15 _ _ _ hP hD hS (lv_sub hl [0, 1, 2, 3, 4, 5, 6, 7, 8, 9, 10, 11] rfl)
      rintro s16 ⟨z19, hF, hwz19⟩ H locs ls hP hD hS hl
      try dsimp only at hF
      refine lv_iload hx hb dX6_fillWindow_75 (lv_at hl 0 rfl) ?_
      refine lv_iload hx hb dX6_fillWindow_77 (lv_at hl 11 rfl) ?_
      refine lv_icmp_ge (tgt := 138) hx hb dX6_fillWindow_79 (by decide) (fun c20 => ?_) (fun c20 => ?_)
      · rw [if_pos c20] at hF
        obtain rfl := Option.some.inj hF
        subst hwz19
        exact K15 _ _ _ hP hD hS (lv_sub hl [0, 1, 2, 3, 4, 5, 6, 7, 8, 9, 10, 11] rfl)
      · rw [if_neg c20] at hF
        refine lv_iload_n hx hb dX6_fillWindow_82 rfl (lv_at hl 9 rfl) ?_
        refine lv_iload hx hb dX6_fillWindow_83 (lv_at hl 0 rfl) ?_
        refine lv_iadd hx hb dX6_fillWindow_85 ?_
        obtain ⟨x21, ex21, hF⟩ := ltt_some hF
        refine lv_topi (fun zx21 ezx21 => ?_)
        obtain rfl : x21 = zx21 := ex21.trans ezx21.symm
        refine lv_istore (lv' := [(12, .int x21), (11, .int s16.1), (10, .int x14), (9, .int x12), (8, .int s8.1), (7, .int x6), (6, .int x4), (5, va_re ad (M.2 b2 ((0 : Int32)).toNatClampNeg)), (0, .ref (ad a)), (1, va_re ad p0), (2, .int p1), (3, .int p2), (4, .int p3)]) hx hb dX6_fillWindow_86 hl (by decide) rfl (fun ls hl => ?_)
        refine lv_aload_n hx hb dX6_fillWindow_88 rfl (lv_at hl 8 rfl) ?_
        refine va_get (D := D) (ci := 6) (v := va_re ad (s16.2.2 a 3)) (C := RX6) (T := TX6) (N := 14) hx hb hts (by decide +kernel) hown hK hP a (wld_o ct ad G s16.2 hc hk (by decide)) rfl 3 (by decide) (hts (.fieldLink RX6 21 "VideoSuite$Samples" "window" "[I") (by decide +kernel)) (fun _ h9 => h9) rfl dX6_fillWindow_89 ?_
        refine lv_iload hx hb dX6_fillWindow_92 (lv_at hl 4 rfl) ?_
        refine lv_bipush (v := (21 : Int32)) hx hb dX6_fillWindow_94 (by decide) ?_
        refine lv_imul hx hb dX6_fillWindow_96 ?_
        obtain ⟨x22, ex22, hF⟩ := ltt_some hF
        refine lv_topi (fun zx22 ezx22 => ?_)
        obtain rfl : x22 = zx22 := ex22.trans ezx22.symm
        refine lv_iload hx hb dX6_fillWindow_97 (lv_at hl 1 rfl) ?_
        refine lv_iadd hx hb dX6_fillWindow_99 ?_
        obtain ⟨x23, ex23, hF⟩ := ltt_some hF
        refine lv_topi (fun zx23 ezx23 => ?_)
        obtain rfl : x23 = zx23 := ex23.trans ezx23.symm
        refine lv_aloadq hx hb dX6_fillWindow_100 (lv_at hl 7 rfl) ?_
        refine lv_iload hx hb dX6_fillWindow_102 (lv_at hl 2 rfl) ?_
        refine lv_iload hx hb dX6_fillWindow_104 (lv_at hl 0 rfl) ?_
        obtain ⟨y24, hy24, hF⟩ := bnd_some hF
        have J24 : ∀ (H : Heap) (locs : List Loc) (ls : Array Slot), va_P D classes (wld ct ad G s16.2) H → va_D A (wld ct ad G s16.2) → va_S A s.heap H locs → lv_has ls 13 [(12, .int x21), (11, .int s16.1), (10, .int x14), (9, .int x12), (8, .int s8.1), (7, .int x6), (6, .int x4), (5, va_re ad (M.2 b2 ((0 : Int32)).toNatClampNeg)), (0, .ref (ad a)), (1, va_re ad p0), (2, .int p1), (3, .int p2), (4, .int p3)] → W p l e (headSpec wsX6_fillWindow ({ frames := 0, cells := 0, slots := 0, locals := 0 })).room s m ([.ref (ad a), va_re ad p0, .int p1, .int p2, .int p3] : List Value).toArray below meth c H locs 0 0 (MQ below (va_Qv (fun (_ : Unit) => True) (fun _ t => kE D ct ad G A y t) A) ([.ref (ad a), va_re ad p0, .int p1, .int p2, .int p3] : List Value).toArray s 0 0 A) (F0 m 129 ls [.int y24, .int x14, va_re ad (M.2 b2 ((0 : Int32)).toNatClampNeg), .int x23, va_re ad (s16.2.2 a 3)]) := by
          intro H locs ls hP hD hS hl
          refine lv_iadd hx hb dX6_fillWindow_129 ?_
          obtain ⟨x25, ex25, hF⟩ := ltt_some hF
          refine lv_topi (fun zx25 ezx25 => ?_)
          obtain rfl : x25 = zx25 := ex25.trans ezx25.symm
          obtain ⟨b26, ho26, hc26, hk26, hF⟩ := dr_some hF
          refine W_st (st' := [.int x25, .ref (ad b26), .int x23, va_re ad (s16.2.2 a 3)]) (by rw [va_some ho26]) ?_
          obtain ⟨hvc, hF⟩ := chk_some hF
          refine va_iald hx hb hK hP b26 1 (wld_i ct ad G s16.2 hc26 hk26) rfl hvc dX6_fillWindow_130 ?_
          obtain ⟨x27, ex27, hF⟩ := ltt_some hF
          refine lv_topi (fun zx27 ezx27 => ?_)
          obtain rfl : x27 = zx27 := ex27.trans ezx27.symm
          obtain ⟨b28, ho28, hc28, hk28, hF⟩ := dr_some hF
          refine W_st (st' := [.int x27, .int x23, .ref (ad b28)]) (by rw [va_some ho28]) ?_
          obtain ⟨hvc, hF⟩ := chk_some hF
          refine va_iast hx hb hK hP hD hS b28 1 (wld_i ct ad G s16.2 hc28 hk28) rfl hvc dX6_fillWindow_131 (fun H locs hP hD hS => ?_)
          obtain ⟨M29, eM29, hF⟩ := ltt_some hF
          rw [set_i ct ad G s16.2 hc28 hk28, ← eM29] at hP hD
          obtain ⟨x30, ex30, hF⟩ := ltt_some hF
          refine lv_iinc (v := x30) (lv' := [(11, .int x30), (12, .int x21), (10, .int x14), (9, .int x12), (8, .int s8.1), (7, .int x6), (6, .int x4), (5, va_re ad (M.2 b2 ((0 : Int32)).toNatClampNeg)), (0, .ref (ad a)), (1, va_re ad p0), (2, .int p1), (3, .int p2), (4, .int p3)]) hx hb dX6_fillWindow_132 hl (k := 1) rfl (by rw [ex30]; rfl) (by decide) rfl (fun ls hl => ?_)
          refine lv_goto (tgt := 75) hx hb dX6_fillWindow_135 (by decide) ?_
          obtain rfl := Option.some.inj hF
          exact hwz19 _ _ _ hP hD hS (lv_sub hl [0, 2, 3, 4, 5, 6, 7, 8, 9, 10, 11, 12] rfl)
        clear hF
        have hF := hy24
        clear hy24
        refine lv_if_ge (tgt := 113) hx hb dX6_fillWindow_106 (by decide) (fun c31 => ?_) (fun c31 => ?_)
        · rw [if_pos c31] at hF
          refine lv_iload hx hb dX6_fillWindow_113 (lv_at hl 0 rfl) ?_
          refine lv_iload hx hb dX6_fillWindow_115 (lv_at hl 6 rfl) ?_
          obtain ⟨y32, hy32, hF⟩ := bnd_some hF
          have J32 : ∀ (H : Heap) (locs : List Loc) (ls : Array Slot), va_P D classes (wld ct ad G s16.2) H → va_D A (wld ct ad G s16.2) → va_S A s.heap H locs → lv_has ls 13 [(12, .int x21), (11, .int s16.1), (10, .int x14), (9, .int x12), (8, .int s8.1), (7, .int x6), (6, .int x4), (5, va_re ad (M.2 b2 ((0 : Int32)).toNatClampNeg)), (0, .ref (ad a)), (1, va_re ad p0), (2, .int p1), (3, .int p2), (4, .int p3)] → W p l e (headSpec wsX6_fillWindow ({ frames := 0, cells := 0, slots := 0, locals := 0 })).room s m ([.ref (ad a), va_re ad p0, .int p1, .int p2, .int p3] : List Value).toArray below meth c H locs 0 0 (MQ below (va_Qv (fun (_ : Unit) => True) (fun _ t => kE D ct ad G A y t) A) ([.ref (ad a), va_re ad p0, .int p1, .int p2, .int p3] : List Value).toArray s 0 0 A) (F0 m 129 ls [.int y32, .int x14, va_re ad (M.2 b2 ((0 : Int32)).toNatClampNeg), .int x23, va_re ad (s16.2.2 a 3)]) := by
            intro H locs ls hP hD hS hl
            obtain rfl := Option.some.inj hF
            exact J24 _ _ _ hP hD hS (lv_sub hl [0, 1, 2, 3, 4, 5, 6, 7, 8, 9, 10, 11, 12] rfl)
          clear hF
          have hF := hy32
          clear hy32
          refine lv_icmp_lt (tgt := 127) hx hb dX6_fillWindow_117 (by decide) (fun c33 => ?_) (fun c33 => ?_)
          · rw [if_pos c33] at hF
            refine lv_iload hx hb dX6_fillWindow_127 (lv_at hl 0 rfl) ?_
            obtain rfl := Option.some.inj hF
            exact J32 _ _ _ hP hD hS (lv_sub hl [0, 1, 2, 3, 4, 5, 6, 7, 8, 9, 10, 11, 12] rfl)
          · rw [if_neg c33] at hF
            refine lv_iload hx hb dX6_fillWindow_120 (lv_at hl 6 rfl) ?_
            refine lv_iconst (v := (1 : Int32)) hx hb dX6_fillWindow_122 (by decide) ?_
            refine lv_isub hx hb dX6_fillWindow_123 ?_
            obtain ⟨x34, ex34, hF⟩ := ltt_some hF
            refine lv_topi (fun zx34 ezx34 => ?_)
            obtain rfl : x34 = zx34 := ex34.trans ezx34.symm
            refine lv_goto (tgt := 129) hx hb dX6_fillWindow_124 (by decide) ?_
            obtain rfl := Option.some.inj hF
            exact J32 _ _ _ hP hD hS (lv_sub hl [0, 1, 2, 3, 4, 5, 6, 7, 8, 9, 10, 11, 12] rfl)
        · rw [if_neg c31] at hF
          refine lv_iconst (v := (0 : Int32)) hx hb dX6_fillWindow_109 (by decide) ?_
          refine lv_goto (tgt := 129) hx hb dX6_fillWindow_110 (by decide) ?_
          obtain rfl := Option.some.inj hF
          exact J24 _ _ _ hP hD hS (lv_sub hl [0, 1, 2, 3, 4, 5, 6, 7, 8, 9, 10, 11, 12] rfl)
    clear hF
    have hF := hy13
    clear hy13
    refine lv_if_ge (tgt := 51) hx hb dX6_fillWindow_44 (by decide) (fun c35 => ?_) (fun c35 => ?_)
    · rw [if_pos c35] at hF
      refine lv_iload hx hb dX6_fillWindow_51 (lv_at hl 0 rfl) ?_
      refine lv_iload hx hb dX6_fillWindow_53 (lv_at hl 2 rfl) ?_
      obtain ⟨y36, hy36, hF⟩ := bnd_some hF
      have J36 : ∀ (H : Heap) (locs : List Loc) (ls : Array Slot), va_P D classes (wld ct ad G s8.2) H → va_D A (wld ct ad G s8.2) → va_S A s.heap H locs → lv_has ls 13 [(9, .int x12), (8, .int s8.1), (7, .int x6), (6, .int x4), (5, va_re ad (M.2 b2 ((0 : Int32)).toNatClampNeg)), (0, .ref (ad a)), (1, va_re ad p0), (2, .int p1), (3, .int p2), (4, .int p3)] → W p l e (headSpec wsX6_fillWindow ({ frames := 0, cells := 0, slots := 0, locals := 0 })).room s m ([.ref (ad a), va_re ad p0, .int p1, .int p2, .int p3] : List Value).toArray below meth c H locs 0 0 (MQ below (va_Qv (fun (_ : Unit) => True) (fun _ t => kE D ct ad G A y t) A) ([.ref (ad a), va_re ad p0, .int p1, .int p2, .int p3] : List Value).toArray s 0 0 A) (F0 m 67 ls [.int y36]) := by
        intro H locs ls hP hD hS hl
        obtain rfl := Option.some.inj hF
        exact J13 _ _ _ hP hD hS (lv_sub hl [0, 1, 2, 3, 4, 5, 6, 7, 8, 9] rfl)
      clear hF
      have hF := hy36
      clear hy36
      refine lv_icmp_lt (tgt := 65) hx hb dX6_fillWindow_55 (by decide) (fun c37 => ?_) (fun c37 => ?_)
      · rw [if_pos c37] at hF
        refine lv_iload hx hb dX6_fillWindow_65 (lv_at hl 0 rfl) ?_
        obtain rfl := Option.some.inj hF
        exact J36 _ _ _ hP hD hS (lv_sub hl [0, 1, 2, 3, 4, 5, 6, 7, 8, 9] rfl)
      · rw [if_neg c37] at hF
        refine lv_iload hx hb dX6_fillWindow_58 (lv_at hl 2 rfl) ?_
        refine lv_iconst (v := (1 : Int32)) hx hb dX6_fillWindow_60 (by decide) ?_
        refine lv_isub hx hb dX6_fillWindow_61 ?_
        obtain ⟨x38, ex38, hF⟩ := ltt_some hF
        refine lv_topi (fun zx38 ezx38 => ?_)
        obtain rfl : x38 = zx38 := ex38.trans ezx38.symm
        refine lv_goto (tgt := 67) hx hb dX6_fillWindow_62 (by decide) ?_
        obtain rfl := Option.some.inj hF
        exact J36 _ _ _ hP hD hS (lv_sub hl [0, 1, 2, 3, 4, 5, 6, 7, 8, 9] rfl)
    · rw [if_neg c35] at hF
      refine lv_iconst (v := (0 : Int32)) hx hb dX6_fillWindow_47 (by decide) ?_
      refine lv_goto (tgt := 67) hx hb dX6_fillWindow_48 (by decide) ?_
      obtain rfl := Option.some.inj hF
      exact J13 _ _ _ hP hD hS (lv_sub hl [0, 1, 2, 3, 4, 5, 6, 7, 8, 9] rfl)
theorem dX6_init_0 : decode cX6_init 0 = .ok (.aload_n 0, 1) := by decide +kernel
theorem dX6_init_1 : decode cX6_init 1 = .ok (.invokespecial 3, 3) := by decide +kernel
theorem dX6_init_4 : decode cX6_init 4 = .ok (.aload_n 0, 1) := by decide +kernel
theorem dX6_init_5 : decode cX6_init 5 = .ok (.sipush 384, 3) := by decide +kernel
theorem dX6_init_8 : decode cX6_init 8 = .ok (.newarray .int, 2) := by decide +kernel
theorem dX6_init_10 : decode cX6_init 10 = .ok (.putfield 9, 3) := by decide +kernel
theorem dX6_init_13 : decode cX6_init 13 = .ok (.aload_n 0, 1) := by decide +kernel
theorem dX6_init_14 : decode cX6_init 14 = .ok (.sipush 384, 3) := by decide +kernel
theorem dX6_init_17 : decode cX6_init 17 = .ok (.newarray .int, 2) := by decide +kernel
theorem dX6_init_19 : decode cX6_init 19 = .ok (.putfield 15, 3) := by decide +kernel
theorem dX6_init_22 : decode cX6_init 22 = .ok (.aload_n 0, 1) := by decide +kernel
theorem dX6_init_23 : decode cX6_init 23 = .ok (.sipush 384, 3) := by decide +kernel
theorem dX6_init_26 : decode cX6_init 26 = .ok (.newarray .int, 2) := by decide +kernel
theorem dX6_init_28 : decode cX6_init 28 = .ok (.putfield 18, 3) := by decide +kernel
theorem dX6_init_31 : decode cX6_init 31 = .ok (.aload_n 0, 1) := by decide +kernel
theorem dX6_init_32 : decode cX6_init 32 = .ok (.sipush 441, 3) := by decide +kernel
theorem dX6_init_35 : decode cX6_init 35 = .ok (.newarray .int, 2) := by decide +kernel
theorem dX6_init_37 : decode cX6_init 37 = .ok (.putfield 21, 3) := by decide +kernel
theorem dX6_init_40 : decode cX6_init 40 = .ok (.aload_n 0, 1) := by decide +kernel
theorem dX6_init_41 : decode cX6_init 41 = .ok (.sipush 336, 3) := by decide +kernel
theorem dX6_init_44 : decode cX6_init 44 = .ok (.newarray .int, 2) := by decide +kernel
theorem dX6_init_46 : decode cX6_init 46 = .ok (.putfield 24, 3) := by decide +kernel
theorem dX6_init_49 : decode cX6_init 49 = .ok (.aload_n 0, 1) := by decide +kernel
theorem dX6_init_50 : decode cX6_init 50 = .ok (.bipush 6, 2) := by decide +kernel
theorem dX6_init_52 : decode cX6_init 52 = .ok (.newarray .int, 2) := by decide +kernel
theorem dX6_init_54 : decode cX6_init 54 = .ok (.putfield 27, 3) := by decide +kernel
theorem dX6_init_57 : decode cX6_init 57 = .ok (.aload_n 0, 1) := by decide +kernel
theorem dX6_init_58 : decode cX6_init 58 = .ok (.bipush 16, 2) := by decide +kernel
theorem dX6_init_60 : decode cX6_init 60 = .ok (.newarray .int, 2) := by decide +kernel
theorem dX6_init_62 : decode cX6_init 62 = .ok (.putfield 30, 3) := by decide +kernel
theorem dX6_init_65 : decode cX6_init 65 = .ok (.aload_n 0, 1) := by decide +kernel
theorem dX6_init_66 : decode cX6_init 66 = .ok (.bipush 16, 2) := by decide +kernel
theorem dX6_init_68 : decode cX6_init 68 = .ok (.newarray .int, 2) := by decide +kernel
theorem dX6_init_70 : decode cX6_init 70 = .ok (.putfield 33, 3) := by decide +kernel
theorem dX6_init_73 : decode cX6_init 73 = .ok (.aload_n 0, 1) := by decide +kernel
theorem dX6_init_74 : decode cX6_init 74 = .ok (.bipush 34, 2) := by decide +kernel
theorem dX6_init_76 : decode cX6_init 76 = .ok (.newarray .int, 2) := by decide +kernel
theorem dX6_init_78 : decode cX6_init 78 = .ok (.putfield 36, 3) := by decide +kernel
theorem dX6_init_81 : decode cX6_init 81 = .ok (.return_, 1) := by decide +kernel
noncomputable def FX6_init (G : GG) (M : DD) (a : Nat)  : Option (NN × DD) :=
  chkP (Clo (xt G []) M) <|
  chk (¬ ((384 : Int32)) < 0 ∧ ((384 : Int32)).toNatClampNeg * 4 ≤ 536870912) <|
  ltt ((xt G []).1) fun c2 =>
  app [(13, ((384 : Int32)).toNatClampNeg)] <|
  ltt ([] ++ [(13, ((384 : Int32)).toNatClampNeg)]) fun L4 =>
  ltt (rO M c2) fun M5 =>
  ltt (uP M5 a 0 (some c2)) fun M8 =>
  chkP (Clo (xt G L4) M8) <|
  chk (¬ ((384 : Int32)) < 0 ∧ ((384 : Int32)).toNatClampNeg * 4 ≤ 536870912) <|
  ltt ((xt G L4).1) fun c10 =>
  app [(13, ((384 : Int32)).toNatClampNeg)] <|
  ltt (L4 ++ [(13, ((384 : Int32)).toNatClampNeg)]) fun L12 =>
  ltt (rO M8 c10) fun M13 =>
  ltt (uP M13 a 1 (some c10)) fun M16 =>
  chkP (Clo (xt G L12) M16) <|
  chk (¬ ((384 : Int32)) < 0 ∧ ((384 : Int32)).toNatClampNeg * 4 ≤ 536870912) <|
  ltt ((xt G L12).1) fun c18 =>
  app [(13, ((384 : Int32)).toNatClampNeg)] <|
  ltt (L12 ++ [(13, ((384 : Int32)).toNatClampNeg)]) fun L20 =>
  ltt (rO M16 c18) fun M21 =>
  ltt (uP M21 a 2 (some c18)) fun M24 =>
  chkP (Clo (xt G L20) M24) <|
  chk (¬ ((441 : Int32)) < 0 ∧ ((441 : Int32)).toNatClampNeg * 4 ≤ 536870912) <|
  ltt ((xt G L20).1) fun c26 =>
  app [(13, ((441 : Int32)).toNatClampNeg)] <|
  ltt (L20 ++ [(13, ((441 : Int32)).toNatClampNeg)]) fun L28 =>
  ltt (rO M24 c26) fun M29 =>
  ltt (uP M29 a 3 (some c26)) fun M32 =>
  chkP (Clo (xt G L28) M32) <|
  chk (¬ ((336 : Int32)) < 0 ∧ ((336 : Int32)).toNatClampNeg * 4 ≤ 536870912) <|
  ltt ((xt G L28).1) fun c34 =>
  app [(13, ((336 : Int32)).toNatClampNeg)] <|
  ltt (L28 ++ [(13, ((336 : Int32)).toNatClampNeg)]) fun L36 =>
  ltt (rO M32 c34) fun M37 =>
  ltt (uP M37 a 4 (some c34)) fun M40 =>
  chkP (Clo (xt G L36) M40) <|
  chk (¬ ((6 : Int32)) < 0 ∧ ((6 : Int32)).toNatClampNeg * 4 ≤ 536870912) <|
  ltt ((xt G L36).1) fun c42 =>
  app [(13, ((6 : Int32)).toNatClampNeg)] <|
  ltt (L36 ++ [(13, ((6 : Int32)).toNatClampNeg)]) fun L44 =>
  ltt (rO M40 c42) fun M45 =>
  ltt (uP M45 a 5 (some c42)) fun M48 =>
  chkP (Clo (xt G L44) M48) <|
  chk (¬ ((16 : Int32)) < 0 ∧ ((16 : Int32)).toNatClampNeg * 4 ≤ 536870912) <|
  ltt ((xt G L44).1) fun c50 =>
  app [(13, ((16 : Int32)).toNatClampNeg)] <|
  ltt (L44 ++ [(13, ((16 : Int32)).toNatClampNeg)]) fun L52 =>
  ltt (rO M48 c50) fun M53 =>
  ltt (uP M53 a 6 (some c50)) fun M56 =>
  chkP (Clo (xt G L52) M56) <|
  chk (¬ ((16 : Int32)) < 0 ∧ ((16 : Int32)).toNatClampNeg * 4 ≤ 536870912) <|
  ltt ((xt G L52).1) fun c58 =>
  app [(13, ((16 : Int32)).toNatClampNeg)] <|
  ltt (L52 ++ [(13, ((16 : Int32)).toNatClampNeg)]) fun L60 =>
  ltt (rO M56 c58) fun M61 =>
  ltt (uP M61 a 7 (some c58)) fun M64 =>
  chkP (Clo (xt G L60) M64) <|
  chk (¬ ((34 : Int32)) < 0 ∧ ((34 : Int32)).toNatClampNeg * 4 ≤ 536870912) <|
  ltt ((xt G L60).1) fun c66 =>
  app [(13, ((34 : Int32)).toNatClampNeg)] <|
  ltt (L60 ++ [(13, ((34 : Int32)).toNatClampNeg)]) fun L68 =>
  ltt (rO M64 c66) fun M69 =>
  ltt (uP M69 a 8 (some c66)) fun M72 =>
  some ([], M72)
set_option maxHeartbeats 4000000 in
set_option maxRecDepth 100000 in
theorem kX6_init (l : Launch) (D : va_G) (ct : CT) (ad : Nat → Nat) (Z : Nat → Nat) (G : GG) (M : DD) (sz : Nat) (a : Nat)  (y : NN × DD) (hc : a < G.1) (hk : G.2.1 a = 6) (hF : FX6_init G M a  = some y) : Met l yX6_init wsX6_init ({ frames := 1, cells := y.1.length, slots := wt y.1, locals := 20 }) (va_Pc [.ref (ad a)] (kB D ct ad Z G M sz)) (va_Qv (fun (u : Nat → Nat) => agr G.1 ad u) (fun u t => kE D ct u (xt G y.1) (wA ad G sz) y.2 t) (wA ad G sz)) y.1.length (wt y.1) (wA ad G sz) := by
  refine Met.ofW (cc := cX6_init) (maxL := 1) (ret := none) (by decide) rfl ?_
  intro p e s m args below meth c s₁ B hml hv
  obtain ⟨rfl, hsz, hP, hK, hD0, hZ, hN⟩ := hv
  have hx := B.exec
  have hb := B.bytes
  have hr := B.returns
  have hts := atoms_spec (ws := wsX6_init) B.pre
  have hown : s.vm.findClass RX6 = some m.cls := findClass_of_methodNamed B.named
  have hlocks := B.notSynchronized
  have hin : meth.name = "<init>" := (name_of_methodNamed B.named B.method).1
  subst hsz
  have hD := wD_self (sz := s.heap.size) hD0
  have hA9 : ∀ q, s.heap.size ≤ q → wA ad G s.heap.size q := fun q h => Or.inr h
  generalize hAe : wA ad G s.heap.size = A at hD hA9 hZ ⊢
  have hS : va_S A s.heap s.heap [] := va_S.rf
  have hl := lv_entry ([.ref (ad a)]) (n := 1) (Nat.le_of_ble_eq_true rfl)
  rw [lg_entry_eq]
  generalize (lg_sl ([.ref (ad a)]) ++ List.replicate (1 - (lg_sl ([.ref (ad a)])).length) Slot.unset).toArray = ls at hl ⊢
  have hl : lv_has ls 1 [(0, .ref (ad a))] := hl
  unfold FX6_init at hF
  rw [← wld_0 ct ad G M] at hP hD
  have hk := xt_k0 hc hk
  have hc := xt_l0 hc
  have hag := agr_rf G.1 ad
  obtain ⟨w0, hw0⟩ : ∃ z, z = y := ⟨_, rfl⟩
  rw [← hw0] at hF
  have hT : y.1 = [] ++ w0.1 := by rw [hw0]; rfl
  have h2 : y.2 = w0.2 := by rw [hw0]
  have hbl : y.1.length ≤ y.1.length ∧ wt y.1 ≤ wt y.1 := ⟨Nat.le_refl _, Nat.le_refl _⟩
  refine lv_aload_n hx hb dX6_init_0 rfl (lv_at hl 0 rfl) ?_
  refine W.objInit hx hb hown (hts (.methodLink RX6 3 objectInit) (by decide +kernel)) (hts (.instanceMethod objectInit) (by decide +kernel)) (hts (.code objectInit ⟨#[0xb1]⟩ 1 none) (by decide +kernel)) rfl (by rw [hml]; exact hl.1) rfl dX6_init_1 (Nat.le_of_ble_eq_true rfl) (Nat.le_of_ble_eq_true rfl) ?_
  refine W.eq (g2 := F0 m 4 ls []) rfl ?_
  refine lv_aload_n hx hb dX6_init_4 rfl (lv_at hl 0 rfl) ?_
  refine lv_sipush (v := (384 : Int32)) hx hb dX6_init_5 (by decide) ?_
  obtain ⟨hC1, hF⟩ := chkP_some hF
  obtain ⟨hz9, hF⟩ := chk_some hF
  obtain ⟨c2, ec2, hF⟩ := ltt_some hF
  obtain ⟨w3, hF, ew3⟩ := app_some hF
  obtain ⟨L4, eL4, hF⟩ := ltt_some hF
  have hT4 : y.1 = ([] ++ [(13, ((384 : Int32)).toNatClampNeg)]) ++ w3.1 := by rw [hT, ew3]; simp only [List.append_assoc]
  obtain ⟨M5, eM5, hF⟩ := ltt_some hF
  refine new_i hx hb (hts (.arrayClass .int) (by decide +kernel)) hK hP hD hS hA9 hz9.1 hz9.2 hC1 (room_1s hT4 hbl) dX6_init_8 (fun ad6 H hn7 hP hD hS => ?_)
  rw [← ec2, ← eL4, ← eM5] at hP hD
  refine W_cs (k := L4.length) (n := wt L4) (by rw [eL4]) (by rw [eL4]) ?_
  refine W_st (st' := [.ref (ad6 c2), .ref (ad a)]) (by rw [ec2]) ?_
  have hT : y.1 = L4 ++ w3.1 := by rw [hT4, eL4]
  have h2 : y.2 = w3.2 := by rw [h2, ew3]
  have hl := lv_sub (l' := [(0, .ref (ad a))]) hl [0] rfl
  have e9 : ([(0, .ref (ad a))] : List (Nat × Value)) = [(0, .ref (ad6 a))] := (by first | rfl | simp only [hn7 a hc])
  rw [e9] at hl
  clear e9
  refine W_st (st' := [.ref (ad6 c2), .ref (ad6 a)]) (by first | rfl | simp only [hn7 a hc]) ?_
  have hk : (xt G L4).2.1 a = 6 := by rw [eL4]; exact xt_k _ hc hk
  have hc : a < (xt G L4).1 := by rw [eL4]; exact xt_l _ hc
  have hag := agr_t (xt_ge _ _) hag hn7
  have hc2 : c2 < (xt G L4).1 := by rw [ec2, eL4]; exact cnt_new _ _ _
  have hk2 : (xt G L4).2.1 c2 = 13 := by rw [ec2, eL4]; exact (kind_new _ _ _ _).1
  refine va_putF (D := D) (ci := 6) (v := va_re ad6 (some c2)) (ty := (.array .int)) (C := RX6) (T := TX6) (N := 14) hx hb hts (by decide +kernel) tyX6 tyX6_ok nmX6 hown hK hP hD hS a (wld_o ct ad6 (xt G L4) M5 hc hk (by decide)) rfl 0 (by decide) (hts (.fieldLink RX6 9 "VideoSuite$Samples" "guess" "[I") (by decide +kernel)) (fun _ h9 => h9) rfl hin rfl (by decide +kernel) (nar_q ad6 (Or.inr ⟨_, rfl⟩) (some c2)).1 (nar_q ad6 (Or.inr ⟨_, rfl⟩) (some c2)).2 (Nat.le_of_ble_eq_true rfl) dX6_init_10 (fun H locs hP hD hS => ?_)
  obtain ⟨M8, eM8, hF⟩ := ltt_some hF
  rw [set_oP ct ad6 (xt G L4) M5 hc hk (by decide) (by rfl), ← eM8] at hP hD
  refine lv_aload_n hx hb dX6_init_13 rfl (lv_at hl 0 rfl) ?_
  refine lv_sipush (v := (384 : Int32)) hx hb dX6_init_14 (by decide) ?_
  obtain ⟨hC9, hF⟩ := chkP_some hF
  obtain ⟨hz9, hF⟩ := chk_some hF
  obtain ⟨c10, ec10, hF⟩ := ltt_some hF
  obtain ⟨w11, hF, ew11⟩ := app_some hF
  obtain ⟨L12, eL12, hF⟩ := ltt_some hF
  have hT12 : y.1 = (L4 ++ [(13, ((384 : Int32)).toNatClampNeg)]) ++ w11.1 := by rw [hT, ew11]; simp only [List.append_assoc]
  obtain ⟨M13, eM13, hF⟩ := ltt_some hF
  refine new_i hx hb (hts (.arrayClass .int) (by decide +kernel)) hK hP hD hS hA9 hz9.1 hz9.2 hC9 (room_1s hT12 hbl) dX6_init_17 (fun ad14 H hn15 hP hD hS => ?_)
  rw [← ec10, ← eL12, ← eM13] at hP hD
  refine W_cs (k := L12.length) (n := wt L12) (by rw [eL12]) (by rw [eL12]) ?_
  refine W_st (st' := [.ref (ad14 c10), .ref (ad6 a)]) (by rw [ec10]) ?_
  have hT : y.1 = L12 ++ w11.1 := by rw [hT12, eL12]
  have h2 : y.2 = w11.2 := by rw [h2, ew11]
  have hl := lv_sub (l' := [(0, .ref (ad6 a))]) hl [0] rfl
  have e9 : ([(0, .ref (ad6 a))] : List (Nat × Value)) = [(0, .ref (ad14 a))] := (by first | rfl | simp only [hn15 a hc])
  rw [e9] at hl
  clear e9
  refine W_st (st' := [.ref (ad14 c10), .ref (ad14 a)]) (by first | rfl | simp only [hn15 a hc]) ?_
  have hk : (xt G L12).2.1 a = 6 := by rw [eL12]; exact xt_k _ hc hk
  have hc : a < (xt G L12).1 := by rw [eL12]; exact xt_l _ hc
  have hk2 : (xt G L12).2.1 c2 = 13 := by rw [eL12]; exact xt_k _ hc2 hk2
  have hc2 : c2 < (xt G L12).1 := by rw [eL12]; exact xt_l _ hc2
  have hag := agr_t (xt_ge _ _) hag hn15
  have hc10 : c10 < (xt G L12).1 := by rw [ec10, eL12]; exact cnt_new _ _ _
  have hk10 : (xt G L12).2.1 c10 = 13 := by rw [ec10, eL12]; exact (kind_new _ _ _ _).1
  refine va_putF (D := D) (ci := 6) (v := va_re ad14 (some c10)) (ty := (.array .int)) (C := RX6) (T := TX6) (N := 14) hx hb hts (by decide +kernel) tyX6 tyX6_ok nmX6 hown hK hP hD hS a (wld_o ct ad14 (xt G L12) M13 hc hk (by decide)) rfl 1 (by decide) (hts (.fieldLink RX6 15 "VideoSuite$Samples" "first" "[I") (by decide +kernel)) (fun _ h9 => h9) rfl hin rfl (by decide +kernel) (nar_q ad14 (Or.inr ⟨_, rfl⟩) (some c10)).1 (nar_q ad14 (Or.inr ⟨_, rfl⟩) (some c10)).2 (Nat.le_of_ble_eq_true rfl) dX6_init_19 (fun H locs hP hD hS => ?_)
  obtain ⟨M16, eM16, hF⟩ := ltt_some hF
  rw [set_oP ct ad14 (xt G L12) M13 hc hk (by decide) (by rfl), ← eM16] at hP hD
  refine lv_aload_n hx hb dX6_init_22 rfl (lv_at hl 0 rfl) ?_
  refine lv_sipush (v := (384 : Int32)) hx hb dX6_init_23 (by decide) ?_
  obtain ⟨hC17, hF⟩ := chkP_some hF
  obtain ⟨hz9, hF⟩ := chk_some hF
  obtain ⟨c18, ec18, hF⟩ := ltt_some hF
  obtain ⟨w19, hF, ew19⟩ := app_some hF
  obtain ⟨L20, eL20, hF⟩ := ltt_some hF
  have hT20 : y.1 = (L12 ++ [(13, ((384 : Int32)).toNatClampNeg)]) ++ w19.1 := by rw [hT, ew19]; simp only [List.append_assoc]
  obtain ⟨M21, eM21, hF⟩ := ltt_some hF
  refine new_i hx hb (hts (.arrayClass .int) (by decide +kernel)) hK hP hD hS hA9 hz9.1 hz9.2 hC17 (room_1s hT20 hbl) dX6_init_26 (fun ad22 H hn23 hP hD hS => ?_)
  rw [← ec18, ← eL20, ← eM21] at hP hD
  refine W_cs (k := L20.length) (n := wt L20) (by rw [eL20]) (by rw [eL20]) ?_
  refine W_st (st' := [.ref (ad22 c18), .ref (ad14 a)]) (by rw [ec18]) ?_
  have hT : y.1 = L20 ++ w19.1 := by rw [hT20, eL20]
  have h2 : y.2 = w19.2 := by rw [h2, ew19]
  have hl := lv_sub (l' := [(0, .ref (ad14 a))]) hl [0] rfl
  have e9 : ([(0, .ref (ad14 a))] : List (Nat × Value)) = [(0, .ref (ad22 a))] := (by first | rfl | simp only [hn23 a hc])
  rw [e9] at hl
  clear e9
  refine W_st (st' := [.ref (ad22 c18), .ref (ad22 a)]) (by first | rfl | simp only [hn23 a hc]) ?_
  have hk : (xt G L20).2.1 a = 6 := by rw [eL20]; exact xt_k _ hc hk
  have hc : a < (xt G L20).1 := by rw [eL20]; exact xt_l _ hc
  have hk2 : (xt G L20).2.1 c2 = 13 := by rw [eL20]; exact xt_k _ hc2 hk2
  have hc2 : c2 < (xt G L20).1 := by rw [eL20]; exact xt_l _ hc2
  have hk10 : (xt G L20).2.1 c10 = 13 := by rw [eL20]; exact xt_k _ hc10 hk10
  have hc10 : c10 < (xt G L20).1 := by rw [eL20]; exact xt_l _ hc10
  have hag := agr_t (xt_ge _ _) hag hn23
  have hc18 : c18 < (xt G L20).1 := by rw [ec18, eL20]; exact cnt_new _ _ _
  have hk18 : (xt G L20).2.1 c18 = 13 := by rw [ec18, eL20]; exact (kind_new _ _ _ _).1
  refine va_putF (D := D) (ci := 6) (v := va_re ad22 (some c18)) (ty := (.array .int)) (C := RX6) (T := TX6) (N := 14) hx hb hts (by decide +kernel) tyX6 tyX6_ok nmX6 hown hK hP hD hS a (wld_o ct ad22 (xt G L20) M21 hc hk (by decide)) rfl 2 (by decide) (hts (.fieldLink RX6 18 "VideoSuite$Samples" "second" "[I") (by decide +kernel)) (fun _ h9 => h9) rfl hin rfl (by decide +kernel) (nar_q ad22 (Or.inr ⟨_, rfl⟩) (some c18)).1 (nar_q ad22 (Or.inr ⟨_, rfl⟩) (some c18)).2 (Nat.le_of_ble_eq_true rfl) dX6_init_28 (fun H locs hP hD hS => ?_)
  obtain ⟨M24, eM24, hF⟩ := ltt_some hF
  rw [set_oP ct ad22 (xt G L20) M21 hc hk (by decide) (by rfl), ← eM24] at hP hD
  refine lv_aload_n hx hb dX6_init_31 rfl (lv_at hl 0 rfl) ?_
  refine lv_sipush (v := (441 : Int32)) hx hb dX6_init_32 (by decide) ?_
  obtain ⟨hC25, hF⟩ := chkP_some hF
  obtain ⟨hz9, hF⟩ := chk_some hF
  obtain ⟨c26, ec26, hF⟩ := ltt_some hF
  obtain ⟨w27, hF, ew27⟩ := app_some hF
  obtain ⟨L28, eL28, hF⟩ := ltt_some hF
  have hT28 : y.1 = (L20 ++ [(13, ((441 : Int32)).toNatClampNeg)]) ++ w27.1 := by rw [hT, ew27]; simp only [List.append_assoc]
  obtain ⟨M29, eM29, hF⟩ := ltt_some hF
  refine new_i hx hb (hts (.arrayClass .int) (by decide +kernel)) hK hP hD hS hA9 hz9.1 hz9.2 hC25 (room_1s hT28 hbl) dX6_init_35 (fun ad30 H hn31 hP hD hS => ?_)
  rw [← ec26, ← eL28, ← eM29] at hP hD
  refine W_cs (k := L28.length) (n := wt L28) (by rw [eL28]) (by rw [eL28]) ?_
  refine W_st (st' := [.ref (ad30 c26), .ref (ad22 a)]) (by rw [ec26]) ?_
  have hT : y.1 = L28 ++ w27.1 := by rw [hT28, eL28]
  have h2 : y.2 = w27.2 := by rw [h2, ew27]
  have hl := lv_sub (l' := [(0, .ref (ad22 a))]) hl [0] rfl
  have e9 : ([(0, .ref (ad22 a))] : List (Nat × Value)) = [(0, .ref (ad30 a))] := (by first | rfl | simp only [hn31 a hc])
  rw [e9] at hl
  clear e9
  refine W_st (st' := [.ref (ad30 c26), .ref (ad30 a)]) (by first | rfl | simp only [hn31 a hc]) ?_
  have hk : (xt G L28).2.1 a = 6 := by rw [eL28]; exact xt_k _ hc hk
  have hc : a < (xt G L28).1 := by rw [eL28]; exact xt_l _ hc
  have hk2 : (xt G L28).2.1 c2 = 13 := by rw [eL28]; exact xt_k _ hc2 hk2
  have hc2 : c2 < (xt G L28).1 := by rw [eL28]; exact xt_l _ hc2
  have hk10 : (xt G L28).2.1 c10 = 13 := by rw [eL28]; exact xt_k _ hc10 hk10
  have hc10 : c10 < (xt G L28).1 := by rw [eL28]; exact xt_l _ hc10
  have hk18 : (xt G L28).2.1 c18 = 13 := by rw [eL28]; exact xt_k _ hc18 hk18
  have hc18 : c18 < (xt G L28).1 := by rw [eL28]; exact xt_l _ hc18
  have hag := agr_t (xt_ge _ _) hag hn31
  have hc26 : c26 < (xt G L28).1 := by rw [ec26, eL28]; exact cnt_new _ _ _
  have hk26 : (xt G L28).2.1 c26 = 13 := by rw [ec26, eL28]; exact (kind_new _ _ _ _).1
  refine va_putF (D := D) (ci := 6) (v := va_re ad30 (some c26)) (ty := (.array .int)) (C := RX6) (T := TX6) (N := 14) hx hb hts (by decide +kernel) tyX6 tyX6_ok nmX6 hown hK hP hD hS a (wld_o ct ad30 (xt G L28) M29 hc hk (by decide)) rfl 3 (by decide) (hts (.fieldLink RX6 21 "VideoSuite$Samples" "window" "[I") (by decide +kernel)) (fun _ h9 => h9) rfl hin rfl (by decide +kernel) (nar_q ad30 (Or.inr ⟨_, rfl⟩) (some c26)).1 (nar_q ad30 (Or.inr ⟨_, rfl⟩) (some c26)).2 (Nat.le_of_ble_eq_true rfl) dX6_init_37 (fun H locs hP hD hS => ?_)
  obtain ⟨M32, eM32, hF⟩ := ltt_some hF
  rw [set_oP ct ad30 (xt G L28) M29 hc hk (by decide) (by rfl), ← eM32] at hP hD
  refine lv_aload_n hx hb dX6_init_40 rfl (lv_at hl 0 rfl) ?_
  refine lv_sipush (v := (336 : Int32)) hx hb dX6_init_41 (by decide) ?_
  obtain ⟨hC33, hF⟩ := chkP_some hF
  obtain ⟨hz9, hF⟩ := chk_some hF
  obtain ⟨c34, ec34, hF⟩ := ltt_some hF
  obtain ⟨w35, hF, ew35⟩ := app_some hF
  obtain ⟨L36, eL36, hF⟩ := ltt_some hF
  have hT36 : y.1 = (L28 ++ [(13, ((336 : Int32)).toNatClampNeg)]) ++ w35.1 := by rw [hT, ew35]; simp only [List.append_assoc]
  obtain ⟨M37, eM37, hF⟩ := ltt_some hF
  refine new_i hx hb (hts (.arrayClass .int) (by decide +kernel)) hK hP hD hS hA9 hz9.1 hz9.2 hC33 (room_1s hT36 hbl) dX6_init_44 (fun ad38 H hn39 hP hD hS => ?_)
  rw [← ec34, ← eL36, ← eM37] at hP hD
  refine W_cs (k := L36.length) (n := wt L36) (by rw [eL36]) (by rw [eL36]) ?_
  refine W_st (st' := [.ref (ad38 c34), .ref (ad30 a)]) (by rw [ec34]) ?_
  have hT : y.1 = L36 ++ w35.1 := by rw [hT36, eL36]
  have h2 : y.2 = w35.2 := by rw [h2, ew35]
  have hl := lv_sub (l' := [(0, .ref (ad30 a))]) hl [0] rfl
  have e9 : ([(0, .ref (ad30 a))] : List (Nat × Value)) = [(0, .ref (ad38 a))] := (by first | rfl | simp only [hn39 a hc])
  rw [e9] at hl
  clear e9
  refine W_st (st' := [.ref (ad38 c34), .ref (ad38 a)]) (by first | rfl | simp only [hn39 a hc]) ?_
  have hk : (xt G L36).2.1 a = 6 := by rw [eL36]; exact xt_k _ hc hk
  have hc : a < (xt G L36).1 := by rw [eL36]; exact xt_l _ hc
  have hk2 : (xt G L36).2.1 c2 = 13 := by rw [eL36]; exact xt_k _ hc2 hk2
  have hc2 : c2 < (xt G L36).1 := by rw [eL36]; exact xt_l _ hc2
  have hk10 : (xt G L36).2.1 c10 = 13 := by rw [eL36]; exact xt_k _ hc10 hk10
  have hc10 : c10 < (xt G L36).1 := by rw [eL36]; exact xt_l _ hc10
  have hk18 : (xt G L36).2.1 c18 = 13 := by rw [eL36]; exact xt_k _ hc18 hk18
  have hc18 : c18 < (xt G L36).1 := by rw [eL36]; exact xt_l _ hc18
  have hk26 : (xt G L36).2.1 c26 = 13 := by rw [eL36]; exact xt_k _ hc26 hk26
  have hc26 : c26 < (xt G L36).1 := by rw [eL36]; exact xt_l _ hc26
  have hag := agr_t (xt_ge _ _) hag hn39
  have hc34 : c34 < (xt G L36).1 := by rw [ec34, eL36]; exact cnt_new _ _ _
  have hk34 : (xt G L36).2.1 c34 = 13 := by rw [ec34, eL36]; exact (kind_new _ _ _ _).1
  refine va_putF (D := D) (ci := 6) (v := va_re ad38 (some c34)) (ty := (.array .int)) (C := RX6) (T := TX6) (N := 14) hx hb hts (by decide +kernel) tyX6 tyX6_ok nmX6 hown hK hP hD hS a (wld_o ct ad38 (xt G L36) M37 hc hk (by decide)) rfl 4 (by decide) (hts (.fieldLink RX6 24 "VideoSuite$Samples" "middle" "[I") (by decide +kernel)) (fun _ h9 => h9) rfl hin rfl (by decide +kernel) (nar_q ad38 (Or.inr ⟨_, rfl⟩) (some c34)).1 (nar_q ad38 (Or.inr ⟨_, rfl⟩) (some c34)).2 (Nat.le_of_ble_eq_true rfl) dX6_init_46 (fun H locs hP hD hS => ?_)
  obtain ⟨M40, eM40, hF⟩ := ltt_some hF
  rw [set_oP ct ad38 (xt G L36) M37 hc hk (by decide) (by rfl), ← eM40] at hP hD
  refine lv_aload_n hx hb dX6_init_49 rfl (lv_at hl 0 rfl) ?_
  refine lv_bipush (v := (6 : Int32)) hx hb dX6_init_50 (by decide) ?_
  obtain ⟨hC41, hF⟩ := chkP_some hF
  obtain ⟨hz9, hF⟩ := chk_some hF
  obtain ⟨c42, ec42, hF⟩ := ltt_some hF
  obtain ⟨w43, hF, ew43⟩ := app_some hF
  obtain ⟨L44, eL44, hF⟩ := ltt_some hF
  have hT44 : y.1 = (L36 ++ [(13, ((6 : Int32)).toNatClampNeg)]) ++ w43.1 := by rw [hT, ew43]; simp only [List.append_assoc]
  obtain ⟨M45, eM45, hF⟩ := ltt_some hF
  refine new_i hx hb (hts (.arrayClass .int) (by decide +kernel)) hK hP hD hS hA9 hz9.1 hz9.2 hC41 (room_1s hT44 hbl) dX6_init_52 (fun ad46 H hn47 hP hD hS => ?_)
  rw [← ec42, ← eL44, ← eM45] at hP hD
  refine W_cs (k := L44.length) (n := wt L44) (by rw [eL44]) (by rw [eL44]) ?_
  refine W_st (st' := [.ref (ad46 c42), .ref (ad38 a)]) (by rw [ec42]) ?_
  have hT : y.1 = L44 ++ w43.1 := by rw [hT44, eL44]
  have h2 : y.2 = w43.2 := by rw [h2, ew43]
  have hl := lv_sub (l' := [(0, .ref (ad38 a))]) hl [0] rfl
  have e9 : ([(0, .ref (ad38 a))] : List (Nat × Value)) = [(0, .ref (ad46 a))] := (by first | rfl | simp only [hn47 a hc])
  rw [e9] at hl
  clear e9
  refine W_st (st' := [.ref (ad46 c42), .ref (ad46 a)]) (by first | rfl | simp only [hn47 a hc]) ?_
  have hk : (xt G L44).2.1 a = 6 := by rw [eL44]; exact xt_k _ hc hk
  have hc : a < (xt G L44).1 := by rw [eL44]; exact xt_l _ hc
  have hk2 : (xt G L44).2.1 c2 = 13 := by rw [eL44]; exact xt_k _ hc2 hk2
  have hc2 : c2 < (xt G L44).1 := by rw [eL44]; exact xt_l _ hc2
  have hk10 : (xt G L44).2.1 c10 = 13 := by rw [eL44]; exact xt_k _ hc10 hk10
  have hc10 : c10 < (xt G L44).1 := by rw [eL44]; exact xt_l _ hc10
  have hk18 : (xt G L44).2.1 c18 = 13 := by rw [eL44]; exact xt_k _ hc18 hk18
  have hc18 : c18 < (xt G L44).1 := by rw [eL44]; exact xt_l _ hc18
  have hk26 : (xt G L44).2.1 c26 = 13 := by rw [eL44]; exact xt_k _ hc26 hk26
  have hc26 : c26 < (xt G L44).1 := by rw [eL44]; exact xt_l _ hc26
  have hk34 : (xt G L44).2.1 c34 = 13 := by rw [eL44]; exact xt_k _ hc34 hk34
  have hc34 : c34 < (xt G L44).1 := by rw [eL44]; exact xt_l _ hc34
  have hag := agr_t (xt_ge _ _) hag hn47
  have hc42 : c42 < (xt G L44).1 := by rw [ec42, eL44]; exact cnt_new _ _ _
  have hk42 : (xt G L44).2.1 c42 = 13 := by rw [ec42, eL44]; exact (kind_new _ _ _ _).1
  refine va_putF (D := D) (ci := 6) (v := va_re ad46 (some c42)) (ty := (.array .int)) (C := RX6) (T := TX6) (N := 14) hx hb hts (by decide +kernel) tyX6 tyX6_ok nmX6 hown hK hP hD hS a (wld_o ct ad46 (xt G L44) M45 hc hk (by decide)) rfl 5 (by decide) (hts (.fieldLink RX6 27 "VideoSuite$Samples" "motion" "[I") (by decide +kernel)) (fun _ h9 => h9) rfl hin rfl (by decide +kernel) (nar_q ad46 (Or.inr ⟨_, rfl⟩) (some c42)).1 (nar_q ad46 (Or.inr ⟨_, rfl⟩) (some c42)).2 (Nat.le_of_ble_eq_true rfl) dX6_init_54 (fun H locs hP hD hS => ?_)
  obtain ⟨M48, eM48, hF⟩ := ltt_some hF
  rw [set_oP ct ad46 (xt G L44) M45 hc hk (by decide) (by rfl), ← eM48] at hP hD
  refine lv_aload_n hx hb dX6_init_57 rfl (lv_at hl 0 rfl) ?_
  refine lv_bipush (v := (16 : Int32)) hx hb dX6_init_58 (by decide) ?_
  obtain ⟨hC49, hF⟩ := chkP_some hF
  obtain ⟨hz9, hF⟩ := chk_some hF
  obtain ⟨c50, ec50, hF⟩ := ltt_some hF
  obtain ⟨w51, hF, ew51⟩ := app_some hF
  obtain ⟨L52, eL52, hF⟩ := ltt_some hF
  have hT52 : y.1 = (L44 ++ [(13, ((16 : Int32)).toNatClampNeg)]) ++ w51.1 := by rw [hT, ew51]; simp only [List.append_assoc]
  obtain ⟨M53, eM53, hF⟩ := ltt_some hF
  refine new_i hx hb (hts (.arrayClass .int) (by decide +kernel)) hK hP hD hS hA9 hz9.1 hz9.2 hC49 (room_1s hT52 hbl) dX6_init_60 (fun ad54 H hn55 hP hD hS => ?_)
  rw [← ec50, ← eL52, ← eM53] at hP hD
  refine W_cs (k := L52.length) (n := wt L52) (by rw [eL52]) (by rw [eL52]) ?_
  refine W_st (st' := [.ref (ad54 c50), .ref (ad46 a)]) (by rw [ec50]) ?_
  have hT : y.1 = L52 ++ w51.1 := by rw [hT52, eL52]
  have h2 : y.2 = w51.2 := by rw [h2, ew51]
  have hl := lv_sub (l' := [(0, .ref (ad46 a))]) hl [0] rfl
  have e9 : ([(0, .ref (ad46 a))] : List (Nat × Value)) = [(0, .ref (ad54 a))] := (by first | rfl | simp only [hn55 a hc])
  rw [e9] at hl
  clear e9
  refine W_st (st' := [.ref (ad54 c50), .ref (ad54 a)]) (by first | rfl | simp only [hn55 a hc]) ?_
  have hk : (xt G L52).2.1 a = 6 := by rw [eL52]; exact xt_k _ hc hk
  have hc : a < (xt G L52).1 := by rw [eL52]; exact xt_l _ hc
  have hk2 : (xt G L52).2.1 c2 = 13 := by rw [eL52]; exact xt_k _ hc2 hk2
  have hc2 : c2 < (xt G L52).1 := by rw [eL52]; exact xt_l _ hc2
  have hk10 : (xt G L52).2.1 c10 = 13 := by rw [eL52]; exact xt_k _ hc10 hk10
  have hc10 : c10 < (xt G L52).1 := by rw [eL52]; exact xt_l _ hc10
  have hk18 : (xt G L52).2.1 c18 = 13 := by rw [eL52]; exact xt_k _ hc18 hk18
  have hc18 : c18 < (xt G L52).1 := by rw [eL52]; exact xt_l _ hc18
  have hk26 : (xt G L52).2.1 c26 = 13 := by rw [eL52]; exact xt_k _ hc26 hk26
  have hc26 : c26 < (xt G L52).1 := by rw [eL52]; exact xt_l _ hc26
  have hk34 : (xt G L52).2.1 c34 = 13 := by rw [eL52]; exact xt_k _ hc34 hk34
  have hc34 : c34 < (xt G L52).1 := by rw [eL52]; exact xt_l _ hc34
  have hk42 : (xt G L52).2.1 c42 = 13 := by rw [eL52]; exact xt_k _ hc42 hk42
  have hc42 : c42 < (xt G L52).1 := by rw [eL52]; exact xt_l _ hc42
  have hag := agr_t (xt_ge _ _) hag hn55
  have hc50 : c50 < (xt G L52).1 := by rw [ec50, eL52]; exact cnt_new _ _ _
  have hk50 : (xt G L52).2.1 c50 = 13 := by rw [ec50, eL52]; exact (kind_new _ _ _ _).1
  refine va_putF (D := D) (ci := 6) (v := va_re ad54 (some c50)) (ty := (.array .int)) (C := RX6) (T := TX6) (N := 14) hx hb hts (by decide +kernel) tyX6 tyX6_ok nmX6 hown hK hP hD hS a (wld_o ct ad54 (xt G L52) M53 hc hk (by decide)) rfl 6 (by decide) (hts (.fieldLink RX6 30 "VideoSuite$Samples" "rest" "[I") (by decide +kernel)) (fun _ h9 => h9) rfl hin rfl (by decide +kernel) (nar_q ad54 (Or.inr ⟨_, rfl⟩) (some c50)).1 (nar_q ad54 (Or.inr ⟨_, rfl⟩) (some c50)).2 (Nat.le_of_ble_eq_true rfl) dX6_init_62 (fun H locs hP hD hS => ?_)
  obtain ⟨M56, eM56, hF⟩ := ltt_some hF
  rw [set_oP ct ad54 (xt G L52) M53 hc hk (by decide) (by rfl), ← eM56] at hP hD
  refine lv_aload_n hx hb dX6_init_65 rfl (lv_at hl 0 rfl) ?_
  refine lv_bipush (v := (16 : Int32)) hx hb dX6_init_66 (by decide) ?_
  obtain ⟨hC57, hF⟩ := chkP_some hF
  obtain ⟨hz9, hF⟩ := chk_some hF
  obtain ⟨c58, ec58, hF⟩ := ltt_some hF
  obtain ⟨w59, hF, ew59⟩ := app_some hF
  obtain ⟨L60, eL60, hF⟩ := ltt_some hF
  have hT60 : y.1 = (L52 ++ [(13, ((16 : Int32)).toNatClampNeg)]) ++ w59.1 := by rw [hT, ew59]; simp only [List.append_assoc]
  obtain ⟨M61, eM61, hF⟩ := ltt_some hF
  refine new_i hx hb (hts (.arrayClass .int) (by decide +kernel)) hK hP hD hS hA9 hz9.1 hz9.2 hC57 (room_1s hT60 hbl) dX6_init_68 (fun ad62 H hn63 hP hD hS => ?_)
  rw [← ec58, ← eL60, ← eM61] at hP hD
  refine W_cs (k := L60.length) (n := wt L60) (by rw [eL60]) (by rw [eL60]) ?_
  refine W_st (st' := [.ref (ad62 c58), .ref (ad54 a)]) (by rw [ec58]) ?_
  have hT : y.1 = L60 ++ w59.1 := by rw [hT60, eL60]
  have h2 : y.2 = w59.2 := by rw [h2, ew59]
  have hl := lv_sub (l' := [(0, .ref (ad54 a))]) hl [0] rfl
  have e9 : ([(0, .ref (ad54 a))] : List (Nat × Value)) = [(0, .ref (ad62 a))] := (by first | rfl | simp only [hn63 a hc])
  rw [e9] at hl
  clear e9
  refine W_st (st' := [.ref (ad62 c58), .ref (ad62 a)]) (by first | rfl | simp only [hn63 a hc]) ?_
  have hk : (xt G L60).2.1 a = 6 := by rw [eL60]; exact xt_k _ hc hk
  have hc : a < (xt G L60).1 := by rw [eL60]; exact xt_l _ hc
  have hk2 : (xt G L60).2.1 c2 = 13 := by rw [eL60]; exact xt_k _ hc2 hk2
  have hc2 : c2 < (xt G L60).1 := by rw [eL60]; exact xt_l _ hc2
  have hk10 : (xt G L60).2.1 c10 = 13 := by rw [eL60]; exact xt_k _ hc10 hk10
  have hc10 : c10 < (xt G L60).1 := by rw [eL60]; exact xt_l _ hc10
  have hk18 : (xt G L60).2.1 c18 = 13 := by rw [eL60]; exact xt_k _ hc18 hk18
  have hc18 : c18 < (xt G L60).1 := by rw [eL60]; exact xt_l _ hc18
  have hk26 : (xt G L60).2.1 c26 = 13 := by rw [eL60]; exact xt_k _ hc26 hk26
  have hc26 : c26 < (xt G L60).1 := by rw [eL60]; exact xt_l _ hc26
  have hk34 : (xt G L60).2.1 c34 = 13 := by rw [eL60]; exact xt_k _ hc34 hk34
  have hc34 : c34 < (xt G L60).1 := by rw [eL60]; exact xt_l _ hc34
  have hk42 : (xt G L60).2.1 c42 = 13 := by rw [eL60]; exact xt_k _ hc42 hk42
  have hc42 : c42 < (xt G L60).1 := by rw [eL60]; exact xt_l _ hc42
  have hk50 : (xt G L60).2.1 c50 = 13 := by rw [eL60]; exact xt_k _ hc50 hk50
  have hc50 : c50 < (xt G L60).1 := by rw [eL60]; exact xt_l _ hc50
  have hag := agr_t (xt_ge _ _) hag hn63
  have hc58 : c58 < (xt G L60).1 := by rw [ec58, eL60]; exact cnt_new _ _ _
  have hk58 : (xt G L60).2.1 c58 = 13 := by rw [ec58, eL60]; exact (kind_new _ _ _ _).1
  refine va_putF (D := D) (ci := 6) (v := va_re ad62 (some c58)) (ty := (.array .int)) (C := RX6) (T := TX6) (N := 14) hx hb hts (by decide +kernel) tyX6 tyX6_ok nmX6 hown hK hP hD hS a (wld_o ct ad62 (xt G L60) M61 hc hk (by decide)) rfl 7 (by decide) (hts (.fieldLink RX6 33 "VideoSuite$Samples" "even" "[I") (by decide +kernel)) (fun _ h9 => h9) rfl hin rfl (by decide +kernel) (nar_q ad62 (Or.inr ⟨_, rfl⟩) (some c58)).1 (nar_q ad62 (Or.inr ⟨_, rfl⟩) (some c58)).2 (Nat.le_of_ble_eq_true rfl) dX6_init_70 (fun H locs hP hD hS => ?_)
  obtain ⟨M64, eM64, hF⟩ := ltt_some hF
  rw [set_oP ct ad62 (xt G L60) M61 hc hk (by decide) (by rfl), ← eM64] at hP hD
  refine lv_aload_n hx hb dX6_init_73 rfl (lv_at hl 0 rfl) ?_
  refine lv_bipush (v := (34 : Int32)) hx hb dX6_init_74 (by decide) ?_
  obtain ⟨hC65, hF⟩ := chkP_some hF
  obtain ⟨hz9, hF⟩ := chk_some hF
  obtain ⟨c66, ec66, hF⟩ := ltt_some hF
  obtain ⟨w67, hF, ew67⟩ := app_some hF
  obtain ⟨L68, eL68, hF⟩ := ltt_some hF
  have hT68 : y.1 = (L60 ++ [(13, ((34 : Int32)).toNatClampNeg)]) ++ w67.1 := by rw [hT, ew67]; simp only [List.append_assoc]
  obtain ⟨M69, eM69, hF⟩ := ltt_some hF
  refine new_i hx hb (hts (.arrayClass .int) (by decide +kernel)) hK hP hD hS hA9 hz9.1 hz9.2 hC65 (room_1s hT68 hbl) dX6_init_76 (fun ad70 H hn71 hP hD hS => ?_)
  rw [← ec66, ← eL68, ← eM69] at hP hD
  refine W_cs (k := L68.length) (n := wt L68) (by rw [eL68]) (by rw [eL68]) ?_
  refine W_st (st' := [.ref (ad70 c66), .ref (ad62 a)]) (by rw [ec66]) ?_
  have hT : y.1 = L68 ++ w67.1 := by rw [hT68, eL68]
  have h2 : y.2 = w67.2 := by rw [h2, ew67]
  have hl := lv_sub (l' := []) hl [] rfl
  refine W_st (st' := [.ref (ad70 c66), .ref (ad70 a)]) (by first | rfl | simp only [hn71 a hc]) ?_
  have hk : (xt G L68).2.1 a = 6 := by rw [eL68]; exact xt_k _ hc hk
  have hc : a < (xt G L68).1 := by rw [eL68]; exact xt_l _ hc
  have hk2 : (xt G L68).2.1 c2 = 13 := by rw [eL68]; exact xt_k _ hc2 hk2
  have hc2 : c2 < (xt G L68).1 := by rw [eL68]; exact xt_l _ hc2
  have hk10 : (xt G L68).2.1 c10 = 13 := by rw [eL68]; exact xt_k _ hc10 hk10
  have hc10 : c10 < (xt G L68).1 := by rw [eL68]; exact xt_l _ hc10
  have hk18 : (xt G L68).2.1 c18 = 13 := by rw [eL68]; exact xt_k _ hc18 hk18
  have hc18 : c18 < (xt G L68).1 := by rw [eL68]; exact xt_l _ hc18
  have hk26 : (xt G L68).2.1 c26 = 13 := by rw [eL68]; exact xt_k _ hc26 hk26
  have hc26 : c26 < (xt G L68).1 := by rw [eL68]; exact xt_l _ hc26
  have hk34 : (xt G L68).2.1 c34 = 13 := by rw [eL68]; exact xt_k _ hc34 hk34
  have hc34 : c34 < (xt G L68).1 := by rw [eL68]; exact xt_l _ hc34
  have hk42 : (xt G L68).2.1 c42 = 13 := by rw [eL68]; exact xt_k _ hc42 hk42
  have hc42 : c42 < (xt G L68).1 := by rw [eL68]; exact xt_l _ hc42
  have hk50 : (xt G L68).2.1 c50 = 13 := by rw [eL68]; exact xt_k _ hc50 hk50
  have hc50 : c50 < (xt G L68).1 := by rw [eL68]; exact xt_l _ hc50
  have hk58 : (xt G L68).2.1 c58 = 13 := by rw [eL68]; exact xt_k _ hc58 hk58
  have hc58 : c58 < (xt G L68).1 := by rw [eL68]; exact xt_l _ hc58
  have hag := agr_t (xt_ge _ _) hag hn71
  have hc66 : c66 < (xt G L68).1 := by rw [ec66, eL68]; exact cnt_new _ _ _
  have hk66 : (xt G L68).2.1 c66 = 13 := by rw [ec66, eL68]; exact (kind_new _ _ _ _).1
  refine va_putF (D := D) (ci := 6) (v := va_re ad70 (some c66)) (ty := (.array .int)) (C := RX6) (T := TX6) (N := 14) hx hb hts (by decide +kernel) tyX6 tyX6_ok nmX6 hown hK hP hD hS a (wld_o ct ad70 (xt G L68) M69 hc hk (by decide)) rfl 8 (by decide) (hts (.fieldLink RX6 36 "VideoSuite$Samples" "around" "[I") (by decide +kernel)) (fun _ h9 => h9) rfl hin rfl (by decide +kernel) (nar_q ad70 (Or.inr ⟨_, rfl⟩) (some c66)).1 (nar_q ad70 (Or.inr ⟨_, rfl⟩) (some c66)).2 (Nat.le_of_ble_eq_true rfl) dX6_init_78 (fun H locs hP hD hS => ?_)
  obtain ⟨M72, eM72, hF⟩ := ltt_some hF
  rw [set_oP ct ad70 (xt G L68) M69 hc hk (by decide) (by rfl), ← eM72] at hP hD
  obtain rfl := Option.some.inj hF
  have e1 : y.1 = L68 := by rw [hT]; exact List.append_nil _
  have e2 : y.2 = M72 := h2
  refine W.widen (k := y.1.length) (n := wt y.1) (Nat.le_of_eq (by rw [e1])) (Nat.le_of_eq (by rw [e1])) ?_
  exact W.vret hx hb hr (fun t ht hW => ⟨⟨ad70, rfl, hag, (by unfold kE; rw [e1, e2]; exact ⟨by rw [ht]; exact hP, va_K.moved hW.alike hK, hD⟩)⟩, hS.F ht⟩) hS.2.2 dX6_init_81
