theorem ggX6_measure_X6_normAt : GoodIn wsX6_measure wsX6_normAt := goodIn_r _ [8] (by decide +kernel) (by decide +kernel)
set_option maxRecDepth 20000 in
theorem gX6_measure_X6_normAt : GoodIn wsX6_measure (va_wsS RX6 227 yX6_normAt wsX6_normAt) := goodIn_app (goodIn_of _ (by decide +kernel)) ggX6_measure_X6_normAt
set_option maxRecDepth 20000 in
theorem ggX6_measure_X6_roundingOf : GoodIn wsX6_measure wsX6_roundingOf := goodIn_r _ [11] (by decide +kernel) (by decide +kernel)
set_option maxRecDepth 20000 in
theorem gX6_measure_X6_roundingOf : GoodIn wsX6_measure (va_wsS RX6 262 yX6_roundingOf wsX6_roundingOf) := goodIn_app (goodIn_of _ (by decide +kernel)) ggX6_measure_X6_roundingOf
set_option maxRecDepth 20000 in
theorem ggX6_measure_X6_measured : GoodIn wsX6_measure wsX6_measured := goodIn_r _ [14] (by decide +kernel) (by decide +kernel)
set_option maxRecDepth 20000 in
theorem gX6_measure_X6_measured : GoodIn wsX6_measure (va_wsS RX6 266 yX6_measured wsX6_measured) := goodIn_app (goodIn_of _ (by decide +kernel)) ggX6_measure_X6_measured
theorem dX6_measure_0 : decode cX6_measure 0 = .ok (.iconst 0, 1) := by decide +kernel
theorem dX6_measure_1 : decode cX6_measure 1 = .ok (.istore 6, 2) := by decide +kernel
theorem dX6_measure_3 : decode cX6_measure 3 = .ok (.iload_n 3, 1) := by decide +kernel
theorem dX6_measure_4 : decode cX6_measure 4 = .ok (.istore 7, 2) := by decide +kernel
theorem dX6_measure_6 : decode cX6_measure 6 = .ok (.iload 7, 2) := by decide +kernel
theorem dX6_measure_8 : decode cX6_measure 8 = .ok (.bipush 16, 2) := by decide +kernel
theorem dX6_measure_10 : decode cX6_measure 10 = .ok (.if_icmp .ge 93, 3) := by decide +kernel
theorem dX6_measure_13 : decode cX6_measure 13 = .ok (.getstatic 218, 3) := by decide +kernel
theorem dX6_measure_16 : decode cX6_measure 16 = .ok (.iload 7, 2) := by decide +kernel
theorem dX6_measure_18 : decode cX6_measure 18 = .ok (.iaload, 1) := by decide +kernel
theorem dX6_measure_19 : decode cX6_measure 19 = .ok (.istore 8, 2) := by decide +kernel
theorem dX6_measure_21 : decode cX6_measure 21 = .ok (.getstatic 221, 3) := by decide +kernel
theorem dX6_measure_24 : decode cX6_measure 24 = .ok (.iload 7, 2) := by decide +kernel
theorem dX6_measure_26 : decode cX6_measure 26 = .ok (.iaload, 1) := by decide +kernel
theorem dX6_measure_27 : decode cX6_measure 27 = .ok (.istore 9, 2) := by decide +kernel
theorem dX6_measure_29 : decode cX6_measure 29 = .ok (.aload_n 0, 1) := by decide +kernel
theorem dX6_measure_30 : decode cX6_measure 30 = .ok (.getfield 30, 3) := by decide +kernel
theorem dX6_measure_33 : decode cX6_measure 33 = .ok (.iconst 4, 1) := by decide +kernel
theorem dX6_measure_34 : decode cX6_measure 34 = .ok (.iload 9, 2) := by decide +kernel
theorem dX6_measure_36 : decode cX6_measure 36 = .ok (.imul, 1) := by decide +kernel
theorem dX6_measure_37 : decode cX6_measure 37 = .ok (.iload 8, 2) := by decide +kernel
theorem dX6_measure_39 : decode cX6_measure 39 = .ok (.iadd, 1) := by decide +kernel
theorem dX6_measure_40 : decode cX6_measure 40 = .ok (.iaload, 1) := by decide +kernel
theorem dX6_measure_41 : decode cX6_measure 41 = .ok (.getstatic 259, 3) := by decide +kernel
theorem dX6_measure_44 : decode cX6_measure 44 = .ok (.iload 4, 2) := by decide +kernel
theorem dX6_measure_46 : decode cX6_measure 46 = .ok (.iload 8, 2) := by decide +kernel
theorem dX6_measure_48 : decode cX6_measure 48 = .ok (.iload 9, 2) := by decide +kernel
theorem dX6_measure_50 : decode cX6_measure 50 = .ok (.invokestatic 227, 3) := by decide +kernel
theorem dX6_measure_53 : decode cX6_measure 53 = .ok (.iaload, 1) := by decide +kernel
theorem dX6_measure_54 : decode cX6_measure 54 = .ok (.iload 4, 2) := by decide +kernel
theorem dX6_measure_56 : decode cX6_measure 56 = .ok (.iload 5, 2) := by decide +kernel
theorem dX6_measure_58 : decode cX6_measure 58 = .ok (.invokestatic 262, 3) := by decide +kernel
theorem dX6_measure_61 : decode cX6_measure 61 = .ok (.bipush 15, 2) := by decide +kernel
theorem dX6_measure_63 : decode cX6_measure 63 = .ok (.iload 4, 2) := by decide +kernel
theorem dX6_measure_65 : decode cX6_measure 65 = .ok (.bipush 6, 2) := by decide +kernel
theorem dX6_measure_67 : decode cX6_measure 67 = .ok (.idiv, 1) := by decide +kernel
theorem dX6_measure_68 : decode cX6_measure 68 = .ok (.iadd, 1) := by decide +kernel
theorem dX6_measure_69 : decode cX6_measure 69 = .ok (.invokestatic 266, 3) := by decide +kernel
theorem dX6_measure_72 : decode cX6_measure 72 = .ok (.istore 10, 2) := by decide +kernel
theorem dX6_measure_74 : decode cX6_measure 74 = .ok (.aload_n 1, 1) := by decide +kernel
theorem dX6_measure_75 : decode cX6_measure 75 = .ok (.iload_n 2, 1) := by decide +kernel
theorem dX6_measure_76 : decode cX6_measure 76 = .ok (.iload 7, 2) := by decide +kernel
theorem dX6_measure_78 : decode cX6_measure 78 = .ok (.iadd, 1) := by decide +kernel
theorem dX6_measure_79 : decode cX6_measure 79 = .ok (.iload 10, 2) := by decide +kernel
theorem dX6_measure_81 : decode cX6_measure 81 = .ok (.iastore, 1) := by decide +kernel
theorem dX6_measure_82 : decode cX6_measure 82 = .ok (.iload 6, 2) := by decide +kernel
theorem dX6_measure_84 : decode cX6_measure 84 = .ok (.iload 10, 2) := by decide +kernel
theorem dX6_measure_86 : decode cX6_measure 86 = .ok (.ifCond .eq 7, 3) := by decide +kernel
theorem dX6_measure_89 : decode cX6_measure 89 = .ok (.iconst 1, 1) := by decide +kernel
theorem dX6_measure_90 : decode cX6_measure 90 = .ok (.goto 4, 3) := by decide +kernel
theorem dX6_measure_93 : decode cX6_measure 93 = .ok (.iconst 0, 1) := by decide +kernel
theorem dX6_measure_94 : decode cX6_measure 94 = .ok (.iadd, 1) := by decide +kernel
theorem dX6_measure_95 : decode cX6_measure 95 = .ok (.istore 6, 2) := by decide +kernel
theorem dX6_measure_97 : decode cX6_measure 97 = .ok (.iinc 7 1, 3) := by decide +kernel
theorem dX6_measure_100 : decode cX6_measure 100 = .ok (.goto (-94), 3) := by decide +kernel
theorem dX6_measure_103 : decode cX6_measure 103 = .ok (.iload 6, 2) := by decide +kernel
theorem dX6_measure_105 : decode cX6_measure 105 = .ok (.ireturn, 1) := by decide +kernel
def FX6_measure (G : GG) (M : DD) (a : Nat) (p0 : Option Nat) (p1 : Int32) (p2 : Int32) (p3 : Int32) (p4 : Int32) : Option (DD × Int32) :=
  bnd (itr (fun (s2 : Int32 × Int32 × DD) => ((if ((16 : Int32)) ≤ s2.2.1 then (some (.inr (s2.1, s2.2.1, s2.2.2))) else
  (chk (¬ (s2.2.1 < 0 ∨ 16 ≤ s2.2.1.toNatClampNeg)) <|
  ltt ((sT 14).getD s2.2.1.toNatClampNeg 0) fun x6 =>
  chk (¬ (s2.2.1 < 0 ∨ 16 ≤ s2.2.1.toNatClampNeg)) <|
  ltt ((sT 15).getD s2.2.1.toNatClampNeg 0) fun x7 =>
  ltt ((((4 : Int32)) * x7)) fun x8 =>
  ltt ((x8 + x6)) fun x9 =>
  dr G 13 ((s2.2.2.2 a 6)) fun b10 =>
  chk (¬ (x9 < 0 ∨ G.2.2 b10 ≤ x9.toNatClampNeg)) <|
  ltt (s2.2.2.1 b10 x9.toNatClampNeg) fun x11 =>
  bnd (FX6_normAt G s2.2.2 p3 x6 x7) fun y12 =>
  chk (¬ (y12.2 < 0 ∨ 18 ≤ y12.2.toNatClampNeg)) <|
  ltt ((sT 12).getD y12.2.toNatClampNeg 0) fun x13 =>
  bnd (FX6_roundingOf G y12.1 p3 p4) fun y14 =>
  ltt (p3 / ((6 : Int32))) fun x15 =>
  ltt ((((15 : Int32)) + x15)) fun x16 =>
  bnd (FX6_measured G y14.1 x11 x13 y14.2 x16) fun y17 =>
  ltt ((p1 + s2.2.1)) fun x18 =>
  dr G 13 p0 fun b19 =>
  chk (¬ (x18 < 0 ∨ G.2.2 b19 ≤ x18.toNatClampNeg)) <|
  ltt (uI y17.1 b19 x18.toNatClampNeg y17.2) fun M20 =>
  bnd (if y17.2 = ((0 : Int32)) then (some ((0 : Int32))) else
  (some ((1 : Int32)))) fun (y21 : Int32) =>
  ltt ((s2.1 + y21)) fun x22 =>
  ltt (s2.2.1 + (1 : Int32)) fun x23 =>
  some (.inl (x22, x23, M20)))) : Option ((Int32 × Int32 × DD) ⊕ (Int32 × Int32 × DD)))) 1000000 ((0 : Int32), p2, M)) fun (y1 : Int32 × Int32 × DD) =>
  some (y1.2.2, y1.1)
set_option maxHeartbeats 4000000 in
set_option maxRecDepth 100000 in
theorem kX6_measure (l : Launch) (D : va_G) (ct : CT) (ad : Nat → Nat) (Z : Nat → Nat) (G : GG) (M : DD) (sz : Nat) (a : Nat) (p0 : Option Nat) (p1 : Int32) (p2 : Int32) (p3 : Int32) (p4 : Int32) (y : DD × Int32) (hc : a < G.1) (hk : G.2.1 a = 6) (hF : FX6_measure G M a p0 p1 p2 p3 p4 = some y) : Met l yX6_measure wsX6_measure ({ frames := 1, cells := 0, slots := 0, locals := 24 }) (va_Pc [.ref (ad a), va_re ad p0, .int p1, .int p2, .int p3, .int p4] (kB D ct ad Z G M sz)) (va_Qi (fun (q : Int32) (_ : Unit) => q = y.2) (fun _ t => kE D ct ad G (wA ad G sz) y.1 t) (wA ad G sz)) 0 0 (wA ad G sz) := by
  refine Met.ofW (cc := cX6_measure) (maxL := 11) (ret := (some .int)) (by decide) rfl ?_
  intro p e s m args below meth c s₁ B hml hv
  obtain ⟨rfl, hsz, hP, hK, hD0, hZ, hN⟩ := hv
  have hx := B.exec
  have hb := B.bytes
  have hr := B.returns
  have hts := atoms_spec (ws := wsX6_measure) B.pre
  have hown : s.vm.findClass RX6 = some m.cls := findClass_of_methodNamed B.named
  have hlocks := B.notSynchronized
  subst hsz
  have hD := wD_self (sz := s.heap.size) hD0
  have hA9 : ∀ q, s.heap.size ≤ q → wA ad G s.heap.size q := fun q h => Or.inr h
  generalize hAe : wA ad G s.heap.size = A at hD hA9 hZ ⊢
  have hS : va_S A s.heap s.heap [] := va_S.rf
  have hl := lv_entry ([.ref (ad a), va_re ad p0, .int p1, .int p2, .int p3, .int p4]) (n := 11) (by cases p0 <;> exact Nat.le_of_ble_eq_true rfl)
  rw [lg_entry_eq]
  generalize (lg_sl ([.ref (ad a), va_re ad p0, .int p1, .int p2, .int p3, .int p4]) ++ List.replicate (11 - (lg_sl ([.ref (ad a), va_re ad p0, .int p1, .int p2, .int p3, .int p4])).length) Slot.unset).toArray = ls at hl ⊢
  have hl : lv_has ls 11 [(0, .ref (ad a)), (1, va_re ad p0), (2, .int p1), (3, .int p2), (4, .int p3), (5, .int p4)] := by have e9 : lv_args 0 [.ref (ad a), va_re ad p0, .int p1, .int p2, .int p3, .int p4] = [(0, .ref (ad a)), (1, va_re ad p0), (2, .int p1), (3, .int p2), (4, .int p3), (5, .int p4)] := (by cases p0 <;> rfl); rw [e9] at hl; exact hl
  unfold FX6_measure at hF
  refine lv_iconst (v := (0 : Int32)) hx hb dX6_measure_0 (by decide) ?_
  refine lv_istore (lv' := [(6, .int (0 : Int32)), (0, .ref (ad a)), (1, va_re ad p0), (2, .int p1), (3, .int p2), (4, .int p3), (5, .int p4)]) hx hb dX6_measure_1 hl (by decide) rfl (fun ls hl => ?_)
  refine lv_iload_n hx hb dX6_measure_3 rfl (lv_at hl 4 rfl) ?_
  refine lv_istore (lv' := [(7, .int p2), (6, .int (0 : Int32)), (0, .ref (ad a)), (1, va_re ad p0), (2, .int p1), (3, .int p2), (4, .int p3), (5, .int p4)]) hx hb dX6_measure_4 hl (by decide) rfl (fun ls hl => ?_)
  obtain ⟨y1, hy1, hF⟩ := bnd_some hF
  have K1 : ∀ (H : Heap) (locs : List Loc) (ls : Array Slot), va_P D classes (wld ct ad G y1.2.2) H → va_D A (wld ct ad G y1.2.2) → va_S A s.heap H locs → lv_has ls 11 [(7, .int y1.2.1), (6, .int y1.1), (0, .ref (ad a)), (1, va_re ad p0), (2, .int p1), (3, .int p2), (4, .int p3), (5, .int p4)] → W p l e (headSpec wsX6_measure ({ frames := 1, cells := 0, slots := 0, locals := 24 })).room s m ([.ref (ad a), va_re ad p0, .int p1, .int p2, .int p3, .int p4] : List Value).toArray below meth c H locs 0 0 (MQ below (va_Qi (fun (q : Int32) (_ : Unit) => q = y.2) (fun _ t => kE D ct ad G A y.1 t) A) ([.ref (ad a), va_re ad p0, .int p1, .int p2, .int p3, .int p4] : List Value).toArray s 0 0 A) (F0 m 103 ls []) := by
    intro H locs ls hP hD hS hl
    refine lv_iload hx hb dX6_measure_103 (lv_at hl 1 rfl) ?_
    obtain rfl := Option.some.inj hF
    exact W.iret (v := y1.1) hx hb hr (fun t ht hW => ⟨⟨_, (), rfl, rfl, ⟨by rw [ht]; exact hP, va_K.moved hW.alike hK, hD⟩⟩, hS.F ht⟩) hS.2.2 dX6_measure_105
  clear hF
  refine itr_rule (fun (s2 : Int32 × Int32 × DD) => ∀ (H : Heap) (locs : List Loc) (ls : Array Slot), va_P D classes (wld ct ad G s2.2.2) H → va_D A (wld ct ad G s2.2.2) → va_S A s.heap H locs → lv_has ls 11 [(7, .int s2.2.1), (6, .int s2.1), (0, .ref (ad a)), (1, va_re ad p0), (2, .int p1), (3, .int p2), (4, .int p3), (5, .int p4)] → W p l e (headSpec wsX6_measure ({ frames := 1, cells := 0, slots := 0, locals := 24 })).room s m ([.ref (ad a), va_re ad p0, .int p1, .int p2, .int p3, .int p4] : List Value).toArray below meth c H locs 0 0 (MQ below (va_Qi (fun (q : Int32) (_ : Unit) => q = y.2) (fun _ t => kE D ct ad G A y.1 t) A) ([.ref (ad a), va_re ad p0, .int p1, .int p2, .int p3, .int p4] : List Value).toArray s 0 0 A) (F0 m 6 ls [])) ?_ _ _ hy1 _ _ _ hP hD hS (lv_sub hl [0, 1, 2, 3, 4, 5, 6, 7] rfl)
  rintro s2 ⟨z4, hF, hwz4⟩ H locs ls hP hD hS hl
  try dsimp only at hF
  refine lv_iload hx hb dX6_measure_6 (lv_at hl 0 rfl) ?_
  refine lv_bipush (v := (16 : Int32)) hx hb dX6_measure_8 (by decide) ?_
  refine lv_icmp_ge (tgt := 103) hx hb dX6_measure_10 (by decide) (fun c5 => ?_) (fun c5 => ?_)
  · rw [if_pos c5] at hF
    obtain rfl := Option.some.inj hF
    subst hwz4
    exact K1 _ _ _ hP hD hS (lv_sub hl [0, 1, 2, 3, 4, 5, 6, 7] rfl)
  · rw [if_neg c5] at hF
    refine va_gets hx hb (hZ.1 14 (by decide)).1 hS hown (hts (.fieldLink RX6 218 "VideoSuite$Samples" "SCAN_X" "[I") (by decide +kernel)) (fun _ h => h) dX6_measure_13 ?_
    refine lv_iload hx hb dX6_measure_16 (lv_at hl 0 rfl) ?_
    obtain ⟨hvc, hF⟩ := chk_some hF
    refine va_ti (v := .int ((sT 14).getD s2.2.1.toNatClampNeg 0)) hx hb (hZ.1 14 (by decide)).2 hS hvc rfl dX6_measure_18 ?_
    obtain ⟨x6, ex6, hF⟩ := ltt_some hF
    refine lv_topi (fun zx6 ezx6 => ?_)
    obtain rfl : x6 = zx6 := ex6.trans ezx6.symm
    refine lv_istore (lv' := [(8, .int x6), (7, .int s2.2.1), (6, .int s2.1), (0, .ref (ad a)), (1, va_re ad p0), (2, .int p1), (3, .int p2), (4, .int p3), (5, .int p4)]) hx hb dX6_measure_19 hl (by decide) rfl (fun ls hl => ?_)
    refine va_gets hx hb (hZ.1 15 (by decide)).1 hS hown (hts (.fieldLink RX6 221 "VideoSuite$Samples" "SCAN_Y" "[I") (by decide +kernel)) (fun _ h => h) dX6_measure_21 ?_
    refine lv_iload hx hb dX6_measure_24 (lv_at hl 1 rfl) ?_
    obtain ⟨hvc, hF⟩ := chk_some hF
    refine va_ti (v := .int ((sT 15).getD s2.2.1.toNatClampNeg 0)) hx hb (hZ.1 15 (by decide)).2 hS hvc rfl dX6_measure_26 ?_
    obtain ⟨x7, ex7, hF⟩ := ltt_some hF
    refine lv_topi (fun zx7 ezx7 => ?_)
    obtain rfl : x7 = zx7 := ex7.trans ezx7.symm
    refine lv_istore (lv' := [(9, .int x7), (8, .int x6), (7, .int s2.2.1), (6, .int s2.1), (0, .ref (ad a)), (1, va_re ad p0), (2, .int p1), (3, .int p2), (4, .int p3), (5, .int p4)]) hx hb dX6_measure_27 hl (by decide) rfl (fun ls hl => ?_)
    refine lv_aload_n hx hb dX6_measure_29 rfl (lv_at hl 4 rfl) ?_
    refine va_get (D := D) (ci := 6) (v := va_re ad (s2.2.2.2 a 6)) (C := RX6) (T := TX6) (N := 14) hx hb hts (by decide +kernel) hown hK hP a (wld_o ct ad G s2.2.2 hc hk (by decide)) rfl 6 (by decide) (hts (.fieldLink RX6 30 "VideoSuite$Samples" "rest" "[I") (by decide +kernel)) (fun _ h9 => h9) rfl dX6_measure_30 ?_
    refine lv_iconst (v := (4 : Int32)) hx hb dX6_measure_33 (by decide) ?_
    refine lv_iload hx hb dX6_measure_34 (lv_at hl 0 rfl) ?_
    refine lv_imul hx hb dX6_measure_36 ?_
    obtain ⟨x8, ex8, hF⟩ := ltt_some hF
    refine lv_topi (fun zx8 ezx8 => ?_)
    obtain rfl : x8 = zx8 := ex8.trans ezx8.symm
    refine lv_iload hx hb dX6_measure_37 (lv_at hl 1 rfl) ?_
    refine lv_iadd hx hb dX6_measure_39 ?_
    obtain ⟨x9, ex9, hF⟩ := ltt_some hF
    refine lv_topi (fun zx9 ezx9 => ?_)
    obtain rfl : x9 = zx9 := ex9.trans ezx9.symm
    obtain ⟨b10, ho10, hc10, hk10, hF⟩ := dr_some hF
    refine W_st (st' := [.int x9, .ref (ad b10)]) (by rw [va_some ho10]) ?_
    obtain ⟨hvc, hF⟩ := chk_some hF
    refine va_iald hx hb hK hP b10 1 (wld_i ct ad G s2.2.2 hc10 hk10) rfl hvc dX6_measure_40 ?_
    obtain ⟨x11, ex11, hF⟩ := ltt_some hF
    refine lv_topi (fun zx11 ezx11 => ?_)
    obtain rfl : x11 = zx11 := ex11.trans ezx11.symm
    refine va_gets hx hb (hZ.1 12 (by decide)).1 hS hown (hts (.fieldLink RX6 259 "VideoSuite$Samples" "MEASURE" "[I") (by decide +kernel)) (fun _ h => h) dX6_measure_41 ?_
    refine lv_iload hx hb dX6_measure_44 (lv_at hl 8 rfl) ?_
    refine lv_iload hx hb dX6_measure_46 (lv_at hl 1 rfl) ?_
    refine lv_iload hx hb dX6_measure_48 (lv_at hl 0 rfl) ?_
    obtain ⟨y12, hy12, hF⟩ := bnd_some hF
    have hf9 := wA_in hD hA9 hS
    refine va_calli (va_runS (As := [.int p3, .int x6, .int x7]) (rest := [.ref (Z 12), .int x11]) ⟨hx, hb, hml, hown, hts⟩ (kX6_normAt l D ct ad Z G s2.2.2 H.size p3 x6 x7 y12 hy12) (va_cwS 3 hts gX6_measure_X6_normAt rfl rfl rfl (by decide +kernel) ⟨Nat.le_of_ble_eq_true rfl, Nat.le_of_ble_eq_true rfl⟩) ⟨fun a U g mk q => by obtain ⟨q0, q1, qP, qK, qD, qZ, qN⟩ := q; exact ⟨q0, q1, qP, va_K.moved (u := U) (U := U.calling g mk a) (Vm.Alike.refl U.vm) qK, qD, sF.moved (u := U) (U := U.calling g mk a) (Vm.Alike.refl U.vm) qZ, nF.same rfl qN⟩, fun U hU hW => ⟨rfl, by rw [hU], by rw [hU]; exact hP, va_K.moved hW.alike hK, hD.weaken (fun _ _ _ _ => trivial), by rw [hU]; exact ((hZ.kept hS.2.1).narrow hf9).moved hW.alike, hN.warm hW⟩⟩ rfl rfl hl.1 rfl (lv_room (Nat.le_of_ble_eq_true rfl)) dX6_measure_50 ⟨(Nat.zero_le _), (Nat.zero_le _)⟩) hS (fun q _ h => hf9 q h) hf9 (fun r u t H locs ht hvm hw hB hz1 hk1 hS => ?_)
    obtain ⟨hP, hK9, hD9⟩ := hB
    rw [ht] at hP
    try dsimp only at hw
    subst hw
    have hD := hD9.weaken (fun _ q _ h => hf9 q.1 h)
    obtain ⟨hvc, hF⟩ := chk_some hF
    refine va_ti (v := .int ((sT 12).getD y12.2.toNatClampNeg 0)) hx hb (hZ.1 12 (by decide)).2 hS hvc rfl dX6_measure_53 ?_
    obtain ⟨x13, ex13, hF⟩ := ltt_some hF
    refine lv_topi (fun zx13 ezx13 => ?_)
    obtain rfl : x13 = zx13 := ex13.trans ezx13.symm
    refine lv_iload hx hb dX6_measure_54 (lv_at hl 8 rfl) ?_
    refine lv_iload hx hb dX6_measure_56 (lv_at hl 9 rfl) ?_
    obtain ⟨y14, hy14, hF⟩ := bnd_some hF
    have hf9 := wA_in hD hA9 hS
    refine va_calli (va_runS (As := [.int p3, .int p4]) (rest := [.int x13, .int x11]) ⟨hx, hb, hml, hown, hts⟩ (kX6_roundingOf l D ct ad Z G y12.1 H.size p3 p4 y14 hy14) (va_cwS 2 hts gX6_measure_X6_roundingOf rfl rfl rfl (by decide +kernel) ⟨Nat.le_of_ble_eq_true rfl, Nat.le_of_ble_eq_true rfl⟩) ⟨fun a U g mk q => by obtain ⟨q0, q1, qP, qK, qD, qZ, qN⟩ := q; exact ⟨q0, q1, qP, va_K.moved (u := U) (U := U.calling g mk a) (Vm.Alike.refl U.vm) qK, qD, sF.moved (u := U) (U := U.calling g mk a) (Vm.Alike.refl U.vm) qZ, nF.same rfl qN⟩, fun U hU hW => ⟨rfl, by rw [hU], by rw [hU]; exact hP, va_K.moved hW.alike hK, hD.weaken (fun _ _ _ _ => trivial), by rw [hU]; exact ((hZ.kept hS.2.1).narrow hf9).moved hW.alike, hN.warm hW⟩⟩ rfl rfl hl.1 rfl (lv_room (Nat.le_of_ble_eq_true rfl)) dX6_measure_58 ⟨(Nat.zero_le _), (Nat.zero_le _)⟩) hS (fun q _ h => hf9 q h) hf9 (fun r u t H locs ht hvm hw hB hz1 hk1 hS => ?_)
    obtain ⟨hP, hK9, hD9⟩ := hB
    rw [ht] at hP
    try dsimp only at hw
    subst hw
    have hD := hD9.weaken (fun _ q _ h => hf9 q.1 h)
    refine lv_bipush (v := (15 : Int32)) hx hb dX6_measure_61 (by decide) ?_
    refine lv_iload hx hb dX6_measure_63 (lv_at hl 8 rfl) ?_
    refine lv_bipush (v := (6 : Int32)) hx hb dX6_measure_65 (by decide) ?_
    refine lv_idiv hx hb dX6_measure_67 (by decide) ?_
    obtain ⟨x15, ex15, hF⟩ := ltt_some hF
    refine lv_topi (fun zx15 ezx15 => ?_)
    obtain rfl : x15 = zx15 := ex15.trans ezx15.symm
    refine lv_iadd hx hb dX6_measure_68 ?_
    obtain ⟨x16, ex16, hF⟩ := ltt_some hF
    refine lv_topi (fun zx16 ezx16 => ?_)
    obtain rfl : x16 = zx16 := ex16.trans ezx16.symm
    obtain ⟨y17, hy17, hF⟩ := bnd_some hF
    have hf9 := wA_in hD hA9 hS
    refine va_calli (va_runS (As := [.int x11, .int x13, .int y14.2, .int x16]) (rest := []) ⟨hx, hb, hml, hown, hts⟩ (kX6_measured l D ct ad Z G y14.1 H.size x11 x13 y14.2 x16 y17 hy17) (va_cwS 4 hts gX6_measure_X6_measured rfl rfl rfl (by decide +kernel) ⟨Nat.le_of_ble_eq_true rfl, Nat.le_of_ble_eq_true rfl⟩) ⟨fun a U g mk q => by obtain ⟨q0, q1, qP, qK, qD, qZ, qN⟩ := q; exact ⟨q0, q1, qP, va_K.moved (u := U) (U := U.calling g mk a) (Vm.Alike.refl U.vm) qK, qD, sF.moved (u := U) (U := U.calling g mk a) (Vm.Alike.refl U.vm) qZ, nF.same rfl qN⟩, fun U hU hW => ⟨rfl, by rw [hU], by rw [hU]; exact hP, va_K.moved hW.alike hK, hD.weaken (fun _ _ _ _ => trivial), by rw [hU]; exact ((hZ.kept hS.2.1).narrow hf9).moved hW.alike, hN.warm hW⟩⟩ rfl rfl hl.1 rfl (lv_room (Nat.le_of_ble_eq_true rfl)) dX6_measure_69 ⟨(Nat.zero_le _), (Nat.zero_le _)⟩) hS (fun q _ h => hf9 q h) hf9 (fun r u t H locs ht hvm hw hB hz1 hk1 hS => ?_)
    obtain ⟨hP, hK9, hD9⟩ := hB
    rw [ht] at hP
    try dsimp only at hw
    subst hw
    have hD := hD9.weaken (fun _ q _ h => hf9 q.1 h)
    refine lv_istore (lv' := [(10, .int y17.2), (9, .int x7), (8, .int x6), (7, .int s2.2.1), (6, .int s2.1), (0, .ref (ad a)), (1, va_re ad p0), (2, .int p1), (3, .int p2), (4, .int p3), (5, .int p4)]) hx hb dX6_measure_72 hl (by decide) rfl (fun ls hl => ?_)
    refine lv_aloadq_n hx hb dX6_measure_74 rfl (lv_at hl 6 rfl) ?_
    refine lv_iload_n hx hb dX6_measure_75 rfl (lv_at hl 7 rfl) ?_
    refine lv_iload hx hb dX6_measure_76 (lv_at hl 3 rfl) ?_
    refine lv_iadd hx hb dX6_measure_78 ?_
    obtain ⟨x18, ex18, hF⟩ := ltt_some hF
    refine lv_topi (fun zx18 ezx18 => ?_)
    obtain rfl : x18 = zx18 := ex18.trans ezx18.symm
    refine lv_iload hx hb dX6_measure_79 (lv_at hl 0 rfl) ?_
    obtain ⟨b19, ho19, hc19, hk19, hF⟩ := dr_some hF
    refine W_st (st' := [.int y17.2, .int x18, .ref (ad b19)]) (by rw [va_some ho19]) ?_
    obtain ⟨hvc, hF⟩ := chk_some hF
    refine va_iast hx hb hK hP hD hS b19 1 (wld_i ct ad G y17.1 hc19 hk19) rfl hvc dX6_measure_81 (fun H locs hP hD hS => ?_)
    obtain ⟨M20, eM20, hF⟩ := ltt_some hF
    rw [set_i ct ad G y17.1 hc19 hk19, ← eM20] at hP hD
    refine lv_iload hx hb dX6_measure_82 (lv_at hl 4 rfl) ?_
    refine lv_iload hx hb dX6_measure_84 (lv_at hl 0 rfl) ?_
    obtain ⟨y21, hy21, hF⟩ := bnd_some hF
    have J21 : ∀ (H : Heap) (locs : List Loc) (ls : Array Slot), va_P D classes (wld ct ad G M20) H → va_D A (wld ct ad G M20) → va_S A s.heap H locs → lv_has ls 11 [(10, .int y17.2), (9, .int x7), (8, .int x6), (7, .int s2.2.1), (6, .int s2.1), (0, .ref (ad a)), (1, va_re ad p0), (2, .int p1), (3, .int p2), (4, .int p3), (5, .int p4)] → W p l e (headSpec wsX6_measure ({ frames := 1, cells := 0, slots := 0, locals := 24 })).room s m ([.ref (ad a), va_re ad p0, .int p1, .int p2, .int p3, .int p4] : List Value).toArray below meth c H locs 0 0 (MQ below (va_Qi (fun (q : Int32) (_ : Unit) => q = y.2) (fun _ t => kE D ct ad G A y.1 t) A) ([.ref (ad a), va_re ad p0, .int p1, .int p2, .int p3, .int p4] : List Value).toArray s 0 0 A) (F0 m 94 ls [.int y21, .int s2.1]) := by
      intro H locs ls hP hD hS hl
      refine lv_iadd hx hb dX6_measure_94 ?_
      obtain ⟨x22, ex22, hF⟩ := ltt_some hF
      refine lv_topi (fun zx22 ezx22 => ?_)
      obtain rfl : x22 = zx22 := ex22.trans ezx22.symm
      refine lv_istore (lv' := [(6, .int x22), (10, .int y17.2), (9, .int x7), (8, .int x6), (7, .int s2.2.1), (0, .ref (ad a)), (1, va_re ad p0), (2, .int p1), (3, .int p2), (4, .int p3), (5, .int p4)]) hx hb dX6_measure_95 hl (by decide) rfl (fun ls hl => ?_)
      obtain ⟨x23, ex23, hF⟩ := ltt_some hF
      refine lv_iinc (v := x23) (lv' := [(7, .int x23), (6, .int x22), (10, .int y17.2), (9, .int x7), (8, .int x6), (0, .ref (ad a)), (1, va_re ad p0), (2, .int p1), (3, .int p2), (4, .int p3), (5, .int p4)]) hx hb dX6_measure_97 hl (k := 4) rfl (by rw [ex23]; rfl) (by decide) rfl (fun ls hl => ?_)
      refine lv_goto (tgt := 6) hx hb dX6_measure_100 (by decide) ?_
      obtain rfl := Option.some.inj hF
      exact hwz4 _ _ _ hP hD hS (lv_sub hl [0, 1, 5, 6, 7, 8, 9, 10] rfl)
    clear hF
    have hF := hy21
    clear hy21
    refine lv_if_eq (tgt := 93) hx hb dX6_measure_86 (by decide) (fun c24 => ?_) (fun c24 => ?_)
    · rw [if_pos c24] at hF
      refine lv_iconst (v := (0 : Int32)) hx hb dX6_measure_93 (by decide) ?_
      obtain rfl := Option.some.inj hF
      exact J21 _ _ _ hP hD hS (lv_sub hl [0, 1, 2, 3, 4, 5, 6, 7, 8, 9, 10] rfl)
    · rw [if_neg c24] at hF
      refine lv_iconst (v := (1 : Int32)) hx hb dX6_measure_89 (by decide) ?_
      refine lv_goto (tgt := 94) hx hb dX6_measure_90 (by decide) ?_
      obtain rfl := Option.some.inj hF
      exact J21 _ _ _ hP hD hS (lv_sub hl [0, 1, 2, 3, 4, 5, 6, 7, 8, 9, 10] rfl)
theorem ggX6_measureColours_X6_turnFour : GoodIn wsX6_measureColours wsX6_turnFour := goodIn_r _ [39, 3, 78, 79, 80, 81, 82, 83, 84, 85, 86, 87, 88, 89, 90, 91] (by decide +kernel) (by decide +kernel)
set_option maxRecDepth 20000 in
theorem gX6_measureColours_X6_turnFour : GoodIn wsX6_measureColours (wsV RX6 256 RX6 yX6_turnFour wsX6_turnFour) := goodIn_app (goodIn_of _ (by decide +kernel)) ggX6_measureColours_X6_turnFour
set_option maxRecDepth 20000 in
theorem ggX6_measureColours_X9_levelAt : GoodIn wsX6_measureColours wsX9_levelAt := goodIn_r _ [20] (by decide +kernel) (by decide +kernel)
set_option maxRecDepth 20000 in
theorem gX6_measureColours_X9_levelAt : GoodIn wsX6_measureColours (va_wsS RX6 237 yX9_levelAt wsX9_levelAt) := goodIn_app (goodIn_of _ (by decide +kernel)) ggX6_measureColours_X9_levelAt
set_option maxRecDepth 20000 in
theorem ggX6_measureColours_X6_normAt : GoodIn wsX6_measureColours wsX6_normAt := goodIn_r _ [29] (by decide +kernel) (by decide +kernel)
set_option maxRecDepth 20000 in
theorem gX6_measureColours_X6_normAt : GoodIn wsX6_measureColours (va_wsS RX6 227 yX6_normAt wsX6_normAt) := goodIn_app (goodIn_of _ (by decide +kernel)) ggX6_measureColours_X6_normAt
set_option maxRecDepth 20000 in
theorem ggX6_measureColours_X6_roundingOf : GoodIn wsX6_measureColours wsX6_roundingOf := goodIn_r _ [32] (by decide +kernel) (by decide +kernel)
set_option maxRecDepth 20000 in
theorem gX6_measureColours_X6_roundingOf : GoodIn wsX6_measureColours (va_wsS RX6 262 yX6_roundingOf wsX6_roundingOf) := goodIn_app (goodIn_of _ (by decide +kernel)) ggX6_measureColours_X6_roundingOf
set_option maxRecDepth 20000 in
theorem ggX6_measureColours_X6_measured : GoodIn wsX6_measureColours wsX6_measured := goodIn_r _ [35] (by decide +kernel) (by decide +kernel)
set_option maxRecDepth 20000 in
theorem gX6_measureColours_X6_measured : GoodIn wsX6_measureColours (va_wsS RX6 266 yX6_measured wsX6_measured) := goodIn_app (goodIn_of _ (by decide +kernel)) ggX6_measureColours_X6_measured
theorem ggX6_measureColours_X6_colourAt : GoodIn wsX6_measureColours wsX6_colourAt := goodIn_r _ [11, 2, 60, 61, 62, 63, 64, 65, 66, 67, 68, 69, 70, 71, 72, 73, 74, 75, 76, 77] (by decide +kernel) (by decide +kernel)
set_option maxRecDepth 20000 in
theorem gX6_measureColours_X6_colourAt : GoodIn wsX6_measureColours (va_wsS RX6 206 yX6_colourAt wsX6_colourAt) := goodIn_app (goodIn_of _ (by decide +kernel)) ggX6_measureColours_X6_colourAt
set_option maxRecDepth 20000 in
theorem ggX6_measureColours_X6_turn : GoodIn wsX6_measureColours wsX6_turn := goodIn_r _ [15, 4, 16, 78, 79, 80, 81, 82, 83, 84, 85, 86, 87, 88, 89, 90, 91] (by decide +kernel) (by decide +kernel)
set_option maxRecDepth 20000 in
theorem gX6_measureColours_X6_turn : GoodIn wsX6_measureColours (wsV RX6 270 RX6 yX6_turn wsX6_turn) := goodIn_app (goodIn_of _ (by decide +kernel)) ggX6_measureColours_X6_turn
set_option maxRecDepth 20000 in
theorem ggX6_measureColours_X6_measure : GoodIn wsX6_measureColours wsX6_measure := goodIn_r _ [24, 25, 26, 4, 7, 27, 28, 10, 29, 30, 31, 32, 33, 34, 35, 78, 79, 80, 81, 82, 83, 84, 85, 86, 87, 88, 89, 90, 91] (by decide +kernel) (by decide +kernel)
set_option maxRecDepth 20000 in
theorem gX6_measureColours_X6_measure : GoodIn wsX6_measureColours (wsV RX6 273 RX6 yX6_measure wsX6_measure) := goodIn_app (goodIn_of _ (by decide +kernel)) ggX6_measureColours_X6_measure
set_option maxRecDepth 20000 in
theorem dX6_measureColours_0 : decode cX6_measureColours 0 = .ok (.iconst 0, 1) := by decide +kernel
theorem dX6_measureColours_1 : decode cX6_measureColours 1 = .ok (.istore 6, 2) := by decide +kernel
theorem dX6_measureColours_3 : decode cX6_measureColours 3 = .ok (.iconst 1, 1) := by decide +kernel
theorem dX6_measureColours_4 : decode cX6_measureColours 4 = .ok (.istore 7, 2) := by decide +kernel
theorem dX6_measureColours_6 : decode cX6_measureColours 6 = .ok (.iload 7, 2) := by decide +kernel
theorem dX6_measureColours_8 : decode cX6_measureColours 8 = .ok (.iconst 3, 1) := by decide +kernel
theorem dX6_measureColours_9 : decode cX6_measureColours 9 = .ok (.if_icmp .ge 267, 3) := by decide +kernel
theorem dX6_measureColours_12 : decode cX6_measureColours 12 = .ok (.iconst 0, 1) := by decide +kernel
theorem dX6_measureColours_13 : decode cX6_measureColours 13 = .ok (.istore 8, 2) := by decide +kernel
theorem dX6_measureColours_15 : decode cX6_measureColours 15 = .ok (.iload 8, 2) := by decide +kernel
theorem dX6_measureColours_17 : decode cX6_measureColours 17 = .ok (.iconst 4, 1) := by decide +kernel
theorem dX6_measureColours_18 : decode cX6_measureColours 18 = .ok (.if_icmp .ge 152, 3) := by decide +kernel
theorem dX6_measureColours_21 : decode cX6_measureColours 21 = .ok (.iload 8, 2) := by decide +kernel
theorem dX6_measureColours_23 : decode cX6_measureColours 23 = .ok (.iconst 2, 1) := by decide +kernel
theorem dX6_measureColours_24 : decode cX6_measureColours 24 = .ok (.irem, 1) := by decide +kernel
theorem dX6_measureColours_25 : decode cX6_measureColours 25 = .ok (.iconst 4, 1) := by decide +kernel
theorem dX6_measureColours_26 : decode cX6_measureColours 26 = .ok (.imul, 1) := by decide +kernel
theorem dX6_measureColours_27 : decode cX6_measureColours 27 = .ok (.istore 9, 2) := by decide +kernel
theorem dX6_measureColours_29 : decode cX6_measureColours 29 = .ok (.iload 8, 2) := by decide +kernel
theorem dX6_measureColours_31 : decode cX6_measureColours 31 = .ok (.iconst 2, 1) := by decide +kernel
theorem dX6_measureColours_32 : decode cX6_measureColours 32 = .ok (.idiv, 1) := by decide +kernel
theorem dX6_measureColours_33 : decode cX6_measureColours 33 = .ok (.iconst 4, 1) := by decide +kernel
theorem dX6_measureColours_34 : decode cX6_measureColours 34 = .ok (.imul, 1) := by decide +kernel
theorem dX6_measureColours_35 : decode cX6_measureColours 35 = .ok (.istore 10, 2) := by decide +kernel
theorem dX6_measureColours_37 : decode cX6_measureColours 37 = .ok (.aload_n 0, 1) := by decide +kernel
theorem dX6_measureColours_38 : decode cX6_measureColours 38 = .ok (.aload_n 2, 1) := by decide +kernel
theorem dX6_measureColours_39 : decode cX6_measureColours 39 = .ok (.iload 7, 2) := by decide +kernel
theorem dX6_measureColours_41 : decode cX6_measureColours 41 = .ok (.aaload, 1) := by decide +kernel
theorem dX6_measureColours_42 : decode cX6_measureColours 42 = .ok (.aload_n 1, 1) := by decide +kernel
theorem dX6_measureColours_43 : decode cX6_measureColours 43 = .ok (.getfield 46, 3) := by decide +kernel
theorem dX6_measureColours_46 : decode cX6_measureColours 46 = .ok (.iload_n 3, 1) := by decide +kernel
theorem dX6_measureColours_47 : decode cX6_measureColours 47 = .ok (.iload 9, 2) := by decide +kernel
theorem dX6_measureColours_49 : decode cX6_measureColours 49 = .ok (.iload 10, 2) := by decide +kernel
theorem dX6_measureColours_51 : decode cX6_measureColours 51 = .ok (.invokestatic 206, 3) := by decide +kernel
theorem dX6_measureColours_54 : decode cX6_measureColours 54 = .ok (.bipush 8, 2) := by decide +kernel
theorem dX6_measureColours_56 : decode cX6_measureColours 56 = .ok (.aload_n 1, 1) := by decide +kernel
theorem dX6_measureColours_57 : decode cX6_measureColours 57 = .ok (.getfield 46, 3) := by decide +kernel
theorem dX6_measureColours_60 : decode cX6_measureColours 60 = .ok (.getfield 83, 3) := by decide +kernel
theorem dX6_measureColours_63 : decode cX6_measureColours 63 = .ok (.imul, 1) := by decide +kernel
theorem dX6_measureColours_64 : decode cX6_measureColours 64 = .ok (.sipush 192, 3) := by decide +kernel
theorem dX6_measureColours_67 : decode cX6_measureColours 67 = .ok (.bipush 64, 2) := by decide +kernel
theorem dX6_measureColours_69 : decode cX6_measureColours 69 = .ok (.iload 7, 2) := by decide +kernel
theorem dX6_measureColours_71 : decode cX6_measureColours 71 = .ok (.imul, 1) := by decide +kernel
theorem dX6_measureColours_72 : decode cX6_measureColours 72 = .ok (.iadd, 1) := by decide +kernel
theorem dX6_measureColours_73 : decode cX6_measureColours 73 = .ok (.bipush 8, 2) := by decide +kernel
theorem dX6_measureColours_75 : decode cX6_measureColours 75 = .ok (.iload 10, 2) := by decide +kernel
theorem dX6_measureColours_77 : decode cX6_measureColours 77 = .ok (.imul, 1) := by decide +kernel
theorem dX6_measureColours_78 : decode cX6_measureColours 78 = .ok (.iadd, 1) := by decide +kernel
theorem dX6_measureColours_79 : decode cX6_measureColours 79 = .ok (.iload 9, 2) := by decide +kernel
theorem dX6_measureColours_81 : decode cX6_measureColours 81 = .ok (.iadd, 1) := by decide +kernel
theorem dX6_measureColours_82 : decode cX6_measureColours 82 = .ok (.bipush 8, 2) := by decide +kernel
theorem dX6_measureColours_84 : decode cX6_measureColours 84 = .ok (.invokevirtual 270, 3) := by decide +kernel
theorem dX6_measureColours_87 : decode cX6_measureColours 87 = .ok (.aload_n 0, 1) := by decide +kernel
theorem dX6_measureColours_88 : decode cX6_measureColours 88 = .ok (.getfield 33, 3) := by decide +kernel
theorem dX6_measureColours_91 : decode cX6_measureColours 91 = .ok (.iload 8, 2) := by decide +kernel
theorem dX6_measureColours_93 : decode cX6_measureColours 93 = .ok (.aload_n 0, 1) := by decide +kernel
theorem dX6_measureColours_94 : decode cX6_measureColours 94 = .ok (.getfield 30, 3) := by decide +kernel
theorem dX6_measureColours_97 : decode cX6_measureColours 97 = .ok (.iconst 0, 1) := by decide +kernel
theorem dX6_measureColours_98 : decode cX6_measureColours 98 = .ok (.iaload, 1) := by decide +kernel
theorem dX6_measureColours_99 : decode cX6_measureColours 99 = .ok (.iastore, 1) := by decide +kernel
theorem dX6_measureColours_100 : decode cX6_measureColours 100 = .ok (.aload_n 0, 1) := by decide +kernel
theorem dX6_measureColours_101 : decode cX6_measureColours 101 = .ok (.aload_n 1, 1) := by decide +kernel
theorem dX6_measureColours_102 : decode cX6_measureColours 102 = .ok (.getfield 234, 3) := by decide +kernel
theorem dX6_measureColours_105 : decode cX6_measureColours 105 = .ok (.iload_n 3, 1) := by decide +kernel
theorem dX6_measureColours_106 : decode cX6_measureColours 106 = .ok (.bipush 15, 2) := by decide +kernel
theorem dX6_measureColours_108 : decode cX6_measureColours 108 = .ok (.iconst 4, 1) := by decide +kernel
theorem dX6_measureColours_109 : decode cX6_measureColours 109 = .ok (.iload 7, 2) := by decide +kernel
theorem dX6_measureColours_111 : decode cX6_measureColours 111 = .ok (.imul, 1) := by decide +kernel
theorem dX6_measureColours_112 : decode cX6_measureColours 112 = .ok (.iadd, 1) := by decide +kernel
theorem dX6_measureColours_113 : decode cX6_measureColours 113 = .ok (.iload 8, 2) := by decide +kernel
theorem dX6_measureColours_115 : decode cX6_measureColours 115 = .ok (.iadd, 1) := by decide +kernel
theorem dX6_measureColours_116 : decode cX6_measureColours 116 = .ok (.invokestatic 237, 3) := by decide +kernel
theorem dX6_measureColours_119 : decode cX6_measureColours 119 = .ok (.iconst 1, 1) := by decide +kernel
theorem dX6_measureColours_120 : decode cX6_measureColours 120 = .ok (.iload 4, 2) := by decide +kernel
theorem dX6_measureColours_122 : decode cX6_measureColours 122 = .ok (.iload 5, 2) := by decide +kernel
theorem dX6_measureColours_124 : decode cX6_measureColours 124 = .ok (.invokevirtual 273, 3) := by decide +kernel
theorem dX6_measureColours_127 : decode cX6_measureColours 127 = .ok (.istore 11, 2) := by decide +kernel
theorem dX6_measureColours_129 : decode cX6_measureColours 129 = .ok (.aload_n 1, 1) := by decide +kernel
theorem dX6_measureColours_130 : decode cX6_measureColours 130 = .ok (.getfield 277, 3) := by decide +kernel
theorem dX6_measureColours_133 : decode cX6_measureColours 133 = .ok (.bipush 24, 2) := by decide +kernel
theorem dX6_measureColours_135 : decode cX6_measureColours 135 = .ok (.iload_n 3, 1) := by decide +kernel
theorem dX6_measureColours_136 : decode cX6_measureColours 136 = .ok (.imul, 1) := by decide +kernel
theorem dX6_measureColours_137 : decode cX6_measureColours 137 = .ok (.bipush 12, 2) := by decide +kernel
theorem dX6_measureColours_139 : decode cX6_measureColours 139 = .ok (.iadd, 1) := by decide +kernel
theorem dX6_measureColours_140 : decode cX6_measureColours 140 = .ok (.iconst 4, 1) := by decide +kernel
theorem dX6_measureColours_141 : decode cX6_measureColours 141 = .ok (.iload 7, 2) := by decide +kernel
theorem dX6_measureColours_143 : decode cX6_measureColours 143 = .ok (.imul, 1) := by decide +kernel
theorem dX6_measureColours_144 : decode cX6_measureColours 144 = .ok (.iadd, 1) := by decide +kernel
theorem dX6_measureColours_145 : decode cX6_measureColours 145 = .ok (.iload 8, 2) := by decide +kernel
theorem dX6_measureColours_147 : decode cX6_measureColours 147 = .ok (.iadd, 1) := by decide +kernel
theorem dX6_measureColours_148 : decode cX6_measureColours 148 = .ok (.iload 11, 2) := by decide +kernel
theorem dX6_measureColours_150 : decode cX6_measureColours 150 = .ok (.iastore, 1) := by decide +kernel
theorem dX6_measureColours_151 : decode cX6_measureColours 151 = .ok (.iload 11, 2) := by decide +kernel
theorem dX6_measureColours_153 : decode cX6_measureColours 153 = .ok (.ifCond .le 7, 3) := by decide +kernel
theorem dX6_measureColours_156 : decode cX6_measureColours 156 = .ok (.iconst 2, 1) := by decide +kernel
theorem dX6_measureColours_157 : decode cX6_measureColours 157 = .ok (.goto 5, 3) := by decide +kernel
theorem dX6_measureColours_160 : decode cX6_measureColours 160 = .ok (.iload 6, 2) := by decide +kernel
theorem dX6_measureColours_162 : decode cX6_measureColours 162 = .ok (.istore 6, 2) := by decide +kernel
theorem dX6_measureColours_164 : decode cX6_measureColours 164 = .ok (.iinc 8 1, 3) := by decide +kernel
theorem dX6_measureColours_167 : decode cX6_measureColours 167 = .ok (.goto (-152), 3) := by decide +kernel
theorem dX6_measureColours_170 : decode cX6_measureColours 170 = .ok (.aload_n 0, 1) := by decide +kernel
theorem dX6_measureColours_171 : decode cX6_measureColours 171 = .ok (.invokevirtual 256, 3) := by decide +kernel
theorem dX6_measureColours_174 : decode cX6_measureColours 174 = .ok (.iload_n 3, 1) := by decide +kernel
theorem dX6_measureColours_175 : decode cX6_measureColours 175 = .ok (.bipush 16, 2) := by decide +kernel
theorem dX6_measureColours_177 : decode cX6_measureColours 177 = .ok (.iload 7, 2) := by decide +kernel
theorem dX6_measureColours_179 : decode cX6_measureColours 179 = .ok (.iadd, 1) := by decide +kernel
theorem dX6_measureColours_180 : decode cX6_measureColours 180 = .ok (.invokestatic 237, 3) := by decide +kernel
theorem dX6_measureColours_183 : decode cX6_measureColours 183 = .ok (.istore 8, 2) := by decide +kernel
theorem dX6_measureColours_185 : decode cX6_measureColours 185 = .ok (.iconst 0, 1) := by decide +kernel
theorem dX6_measureColours_186 : decode cX6_measureColours 186 = .ok (.istore 9, 2) := by decide +kernel
theorem dX6_measureColours_188 : decode cX6_measureColours 188 = .ok (.iload 9, 2) := by decide +kernel
theorem dX6_measureColours_190 : decode cX6_measureColours 190 = .ok (.iconst 4, 1) := by decide +kernel
theorem dX6_measureColours_191 : decode cX6_measureColours 191 = .ok (.if_icmp .ge 79, 3) := by decide +kernel
theorem dX6_measureColours_194 : decode cX6_measureColours 194 = .ok (.aload_n 0, 1) := by decide +kernel
theorem dX6_measureColours_195 : decode cX6_measureColours 195 = .ok (.getfield 33, 3) := by decide +kernel
theorem dX6_measureColours_198 : decode cX6_measureColours 198 = .ok (.iload 9, 2) := by decide +kernel
theorem dX6_measureColours_200 : decode cX6_measureColours 200 = .ok (.iaload, 1) := by decide +kernel
theorem dX6_measureColours_201 : decode cX6_measureColours 201 = .ok (.getstatic 259, 3) := by decide +kernel
theorem dX6_measureColours_204 : decode cX6_measureColours 204 = .ok (.iload 4, 2) := by decide +kernel
theorem dX6_measureColours_206 : decode cX6_measureColours 206 = .ok (.iconst 0, 1) := by decide +kernel
theorem dX6_measureColours_207 : decode cX6_measureColours 207 = .ok (.iconst 0, 1) := by decide +kernel
theorem dX6_measureColours_208 : decode cX6_measureColours 208 = .ok (.invokestatic 227, 3) := by decide +kernel
theorem dX6_measureColours_211 : decode cX6_measureColours 211 = .ok (.iaload, 1) := by decide +kernel
theorem dX6_measureColours_212 : decode cX6_measureColours 212 = .ok (.iconst 2, 1) := by decide +kernel
theorem dX6_measureColours_213 : decode cX6_measureColours 213 = .ok (.iload 4, 2) := by decide +kernel
theorem dX6_measureColours_215 : decode cX6_measureColours 215 = .ok (.iload 5, 2) := by decide +kernel
theorem dX6_measureColours_217 : decode cX6_measureColours 217 = .ok (.invokestatic 262, 3) := by decide +kernel
theorem dX6_measureColours_220 : decode cX6_measureColours 220 = .ok (.imul, 1) := by decide +kernel
theorem dX6_measureColours_221 : decode cX6_measureColours 221 = .ok (.bipush 16, 2) := by decide +kernel
theorem dX6_measureColours_223 : decode cX6_measureColours 223 = .ok (.iload 4, 2) := by decide +kernel
theorem dX6_measureColours_225 : decode cX6_measureColours 225 = .ok (.bipush 6, 2) := by decide +kernel
theorem dX6_measureColours_227 : decode cX6_measureColours 227 = .ok (.idiv, 1) := by decide +kernel
theorem dX6_measureColours_228 : decode cX6_measureColours 228 = .ok (.iadd, 1) := by decide +kernel
theorem dX6_measureColours_229 : decode cX6_measureColours 229 = .ok (.invokestatic 266, 3) := by decide +kernel
theorem dX6_measureColours_232 : decode cX6_measureColours 232 = .ok (.istore 10, 2) := by decide +kernel
theorem dX6_measureColours_234 : decode cX6_measureColours 234 = .ok (.aload_n 1, 1) := by decide +kernel
theorem dX6_measureColours_235 : decode cX6_measureColours 235 = .ok (.getfield 234, 3) := by decide +kernel
theorem dX6_measureColours_238 : decode cX6_measureColours 238 = .ok (.iload 8, 2) := by decide +kernel
theorem dX6_measureColours_240 : decode cX6_measureColours 240 = .ok (.iload 9, 2) := by decide +kernel
theorem dX6_measureColours_242 : decode cX6_measureColours 242 = .ok (.iadd, 1) := by decide +kernel
theorem dX6_measureColours_243 : decode cX6_measureColours 243 = .ok (.iload 10, 2) := by decide +kernel
theorem dX6_measureColours_245 : decode cX6_measureColours 245 = .ok (.iastore, 1) := by decide +kernel
theorem dX6_measureColours_246 : decode cX6_measureColours 246 = .ok (.iload 10, 2) := by decide +kernel
theorem dX6_measureColours_248 : decode cX6_measureColours 248 = .ok (.ifCond .eq 12, 3) := by decide +kernel
theorem dX6_measureColours_251 : decode cX6_measureColours 251 = .ok (.iload 6, 2) := by decide +kernel
theorem dX6_measureColours_253 : decode cX6_measureColours 253 = .ok (.ifCond .ne 7, 3) := by decide +kernel
theorem dX6_measureColours_256 : decode cX6_measureColours 256 = .ok (.iconst 1, 1) := by decide +kernel
theorem dX6_measureColours_257 : decode cX6_measureColours 257 = .ok (.goto 5, 3) := by decide +kernel
theorem dX6_measureColours_260 : decode cX6_measureColours 260 = .ok (.iload 6, 2) := by decide +kernel
theorem dX6_measureColours_262 : decode cX6_measureColours 262 = .ok (.istore 6, 2) := by decide +kernel
theorem dX6_measureColours_264 : decode cX6_measureColours 264 = .ok (.iinc 9 1, 3) := by decide +kernel
theorem dX6_measureColours_267 : decode cX6_measureColours 267 = .ok (.goto (-79), 3) := by decide +kernel
theorem dX6_measureColours_270 : decode cX6_measureColours 270 = .ok (.iinc 7 1, 3) := by decide +kernel
theorem dX6_measureColours_273 : decode cX6_measureColours 273 = .ok (.goto (-267), 3) := by decide +kernel
theorem dX6_measureColours_276 : decode cX6_measureColours 276 = .ok (.iload 6, 2) := by decide +kernel
theorem dX6_measureColours_278 : decode cX6_measureColours 278 = .ok (.ireturn, 1) := by decide +kernel
def FX6_measureColours (G : GG) (M : DD) (a : Nat) (p0 : Option Nat) (p1 : Option Nat) (p2 : Int32) (p3 : Int32) (p4 : Int32) : Option (DD × Int32) :=
  bnd (itr (fun (s2 : Int32 × Int32 × DD) => ((if ((3 : Int32)) ≤ s2.2.1 then (some (.inr (s2.1, s2.2.1, s2.2.2))) else
  (bnd (itr (fun (s7 : Int32 × Int32 × DD) => ((if ((4 : Int32)) ≤ s7.2.1 then (some (.inr (s7.1, s7.2.1, s7.2.2))) else
  (ltt (s7.2.1 - s7.2.1 / ((2 : Int32)) * ((2 : Int32))) fun x38 =>
  ltt ((x38 * ((4 : Int32)))) fun x39 =>
  ltt (s7.2.1 / ((2 : Int32))) fun x40 =>
  ltt ((x40 * ((4 : Int32)))) fun x41 =>
  dr G 15 p1 fun b42 =>
  chk (¬ (s2.2.1 < 0 ∨ G.2.2 b42 ≤ s2.2.1.toNatClampNeg)) <|
  dr G 9 p0 fun b43 =>
  bnd (FX6_colourAt G s7.2.2 ((s7.2.2.2 b43 0)) p2 x39 x41) fun y44 =>
  dr G 4 ((y44.1.2 b43 0)) fun b45 =>
  ltt (y44.1.1 b45 1) fun x46 =>
  ltt ((((8 : Int32)) * x46)) fun x47 =>
  ltt ((((64 : Int32)) * s2.2.1)) fun x48 =>
  ltt ((((192 : Int32)) + x48)) fun x49 =>
  ltt ((((8 : Int32)) * x41)) fun x50 =>
  ltt ((x49 + x50)) fun x51 =>
  ltt ((x51 + x39)) fun x52 =>
  bnd (FX6_turn G y44.1 a ((s7.2.2.2 b42 s2.2.1.toNatClampNeg)) y44.2 x47 x52 ((8 : Int32))) fun y53 =>
  dr G 13 ((y53.2 a 6)) fun b54 =>
  chk (¬ (((0 : Int32)) < 0 ∨ G.2.2 b54 ≤ ((0 : Int32)).toNatClampNeg)) <|
  ltt (y53.1 b54 ((0 : Int32)).toNatClampNeg) fun x55 =>
  dr G 13 ((y53.2 a 7)) fun b56 =>
  chk (¬ (s7.2.1 < 0 ∨ G.2.2 b56 ≤ s7.2.1.toNatClampNeg)) <|
  ltt (uI y53 b56 s7.2.1.toNatClampNeg x55) fun M57 =>
  ltt ((((4 : Int32)) * s2.2.1)) fun x58 =>
  ltt ((((15 : Int32)) + x58)) fun x59 =>
  ltt ((x59 + s7.2.1)) fun x60 =>
  bnd (FX9_levelAt G M57 p2 x60) fun y61 =>
  bnd (FX6_measure G y61.1 a ((M57.2 b43 9)) y61.2 ((1 : Int32)) p3 p4) fun y62 =>
  ltt ((((24 : Int32)) * p2)) fun x63 =>
  ltt ((x63 + ((12 : Int32)))) fun x64 =>
  ltt ((((4 : Int32)) * s2.2.1)) fun x65 =>
  ltt ((x64 + x65)) fun x66 =>
  ltt ((x66 + s7.2.1)) fun x67 =>
  dr G 13 ((y62.1.2 b43 8)) fun b68 =>
  chk (¬ (x67 < 0 ∨ G.2.2 b68 ≤ x67.toNatClampNeg)) <|
  ltt (uI y62.1 b68 x67.toNatClampNeg y62.2) fun M69 =>
  bnd (if y62.2 ≤ ((0 : Int32)) then (some (s7.1)) else
  (some ((2 : Int32)))) fun (y70 : Int32) =>
  ltt (s7.2.1 + (1 : Int32)) fun x71 =>
  some (.inl (y70, x71, M69)))) : Option ((Int32 × Int32 × DD) ⊕ (Int32 × Int32 × DD)))) 1000000 (s2.1, (0 : Int32), s2.2.2)) fun (y6 : Int32 × Int32 × DD) =>
  bnd (FX6_turnFour G y6.2.2 a) fun y9 =>
  ltt ((((16 : Int32)) + s2.2.1)) fun x10 =>
  bnd (FX9_levelAt G y9 p2 x10) fun y11 =>
  bnd (itr (fun (s13 : Int32 × Int32 × DD) => ((if ((4 : Int32)) ≤ s13.2.1 then (some (.inr (s13.1, s13.2.1, s13.2.2))) else
  (dr G 13 ((s13.2.2.2 a 7)) fun b18 =>
  chk (¬ (s13.2.1 < 0 ∨ G.2.2 b18 ≤ s13.2.1.toNatClampNeg)) <|
  ltt (s13.2.2.1 b18 s13.2.1.toNatClampNeg) fun x19 =>
  bnd (FX6_normAt G s13.2.2 p3 ((0 : Int32)) ((0 : Int32))) fun y20 =>
  chk (¬ (y20.2 < 0 ∨ 18 ≤ y20.2.toNatClampNeg)) <|
  ltt ((sT 12).getD y20.2.toNatClampNeg 0) fun x21 =>
  bnd (FX6_roundingOf G y20.1 p3 p4) fun y22 =>
  ltt ((((2 : Int32)) * y22.2)) fun x23 =>
  ltt (p3 / ((6 : Int32))) fun x24 =>
  ltt ((((16 : Int32)) + x24)) fun x25 =>
  bnd (FX6_measured G y22.1 x19 x21 x23 x25) fun y26 =>
  dr G 9 p0 fun b27 =>
  ltt ((y11.2 + s13.2.1)) fun x28 =>
  dr G 13 ((y26.1.2 b27 9)) fun b29 =>
  chk (¬ (x28 < 0 ∨ G.2.2 b29 ≤ x28.toNatClampNeg)) <|
  ltt (uI y26.1 b29 x28.toNatClampNeg y26.2) fun M30 =>
  bnd (if y26.2 = ((0 : Int32)) then (some (s13.1)) else
  (bnd (if s13.1 = ((0 : Int32)) then (some ((1 : Int32))) else
  (some (s13.1))) fun (y34 : Int32) =>
  some (y34))) fun (y31 : Int32) =>
  ltt (s13.2.1 + (1 : Int32)) fun x32 =>
  some (.inl (y31, x32, M30)))) : Option ((Int32 × Int32 × DD) ⊕ (Int32 × Int32 × DD)))) 1000000 (y6.1, (0 : Int32), y11.1)) fun (y12 : Int32 × Int32 × DD) =>
  ltt (s2.2.1 + (1 : Int32)) fun x15 =>
  some (.inl (y12.1, x15, y12.2.2)))) : Option ((Int32 × Int32 × DD) ⊕ (Int32 × Int32 × DD)))) 1000000 ((0 : Int32), (1 : Int32), M)) fun (y1 : Int32 × Int32 × DD) =>
  some (y1.2.2, y1.1)
set_option maxHeartbeats 4000000 in
set_option maxRecDepth 100000 in
theorem kX6_measureColours (l : Launch) (D : va_G) (ct : CT) (ad : Nat → Nat) (Z : Nat → Nat) (G : GG) (M : DD) (sz : Nat) (a : Nat) (p0 : Option Nat) (p1 : Option Nat) (p2 : Int32) (p3 : Int32) (p4 : Int32) (y : DD × Int32) (hc : a < G.1) (hk : G.2.1 a = 6) (hF : FX6_measureColours G M a p0 p1 p2 p3 p4 = some y) : Met l yX6_measureColours wsX6_measureColours ({ frames := 2, cells := 0, slots := 0, locals := 54 }) (va_Pc [.ref (ad a), va_re ad p0, va_re ad p1, .int p2, .int p3, .int p4] (kB D ct ad Z G M sz)) (va_Qi (fun (q : Int32) (_ : Unit) => q = y.2) (fun _ t => kE D ct ad G (wA ad G sz) y.1 t) (wA ad G sz)) 0 0 (wA ad G sz) := by
  refine Met.ofW (cc := cX6_measureColours) (maxL := 12) (ret := (some .int)) (by decide) rfl ?_
  intro p e s m args below meth c s₁ B hml hv
  obtain ⟨rfl, hsz, hP, hK, hD0, hZ, hN⟩ := hv
  have hx := B.exec
  have hb := B.bytes
  have hr := B.returns
  have hts := atoms_spec (ws := wsX6_measureColours) B.pre
  have hown : s.vm.findClass RX6 = some m.cls := findClass_of_methodNamed B.named
  have hlocks := B.notSynchronized
  subst hsz
  have hD := wD_self (sz := s.heap.size) hD0
  have hA9 : ∀ q, s.heap.size ≤ q → wA ad G s.heap.size q := fun q h => Or.inr h
  generalize hAe : wA ad G s.heap.size = A at hD hA9 hZ ⊢
  have hS : va_S A s.heap s.heap [] := va_S.rf
  have hl := lv_entry ([.ref (ad a), va_re ad p0, va_re ad p1, .int p2, .int p3, .int p4]) (n := 12) (by cases p0 <;> cases p1 <;> exact Nat.le_of_ble_eq_true rfl)
  rw [lg_entry_eq]
  generalize (lg_sl ([.ref (ad a), va_re ad p0, va_re ad p1, .int p2, .int p3, .int p4]) ++ List.replicate (12 - (lg_sl ([.ref (ad a), va_re ad p0, va_re ad p1, .int p2, .int p3, .int p4])).length) Slot.unset).toArray = ls at hl ⊢
  have hl : lv_has ls 12 [(0, .ref (ad a)), (1, va_re ad p0), (2, va_re ad p1), (3, .int p2), (4, .int p3), (5, .int p4)] := by have e9 : lv_args 0 [.ref (ad a), va_re ad p0, va_re ad p1, .int p2, .int p3, .int p4] = [(0, .ref (ad a)), (1, va_re ad p0), (2, va_re ad p1), (3, .int p2), (4, .int p3), (5, .int p4)] := (by cases p0 <;> cases p1 <;> rfl); rw [e9] at hl; exact hl
  unfold FX6_measureColours at hF
  refine lv_iconst (v := (0 : Int32)) hx hb dX6_measureColours_0 (by decide) ?_
  refine lv_istore (lv' := [(6, .int (0 : Int32)), (0, .ref (ad a)), (1, va_re ad p0), (2, va_re ad p1), (3, .int p2), (4, .int p3), (5, .int p4)]) hx hb dX6_measureColours_1 hl (by decide) rfl (fun ls hl => ?_)
  refine lv_iconst (v := (1 : Int32)) hx hb dX6_measureColours_3 (by decide) ?_
  refine lv_istore (lv' := [(7, .int (1 : Int32)), (6, .int (0 : Int32)), (0, .ref (ad a)), (1, va_re ad p0), (2, va_re ad p1), (3, .int p2), (4, .int p3), (5, .int p4)]) hx hb dX6_measureColours_4 hl (by decide) rfl (fun ls hl => ?_)
  obtain ⟨y1, hy1, hF⟩ := bnd_some hF
  have K1 : ∀ (H : Heap) (locs : List Loc) (ls : Array Slot), va_P D classes (wld ct ad G y1.2.2) H → va_D A (wld ct ad G y1.2.2) → va_S A s.heap H locs → lv_has ls 12 [(7, .int y1.2.1), (6, .int y1.1), (0, .ref (ad a)), (1, va_re ad p0), (2, va_re ad p1), (3, .int p2), (4, .int p3), (5, .int p4)] → W p l e (headSpec wsX6_measureColours ({ frames := 2, cells := 0, slots := 0, locals := 54 })).room s m ([.ref (ad a), va_re ad p0, va_re ad p1, .int p2, .int p3, .int p4] : List Value).toArray below meth c H locs 0 0 (MQ below (va_Qi (fun (q : Int32) (_ : Unit) => q = y.2) (fun _ t => kE D ct ad G A y.1 t) A) ([.ref (ad a), va_re ad p0, va_re ad p1, .int p2, .int p3, .int p4] : List Value).toArray s 0 0 A) (F0 m 276 ls []) := by
    intro H locs ls hP hD hS hl
    refine lv_iload hx hb dX6_measureColours_276 (lv_at hl 1 rfl) ?_
    obtain rfl := Option.some.inj hF
    exact W.iret (v := y1.1) hx hb hr (fun t ht hW => ⟨⟨_, (), rfl, rfl, ⟨by rw [ht]; exact hP, va_K.moved hW.alike hK, hD⟩⟩, hS.F ht⟩) hS.2.2 dX6_measureColours_278
  clear hF
  refine itr_rule (fun (s2 : Int32 × Int32 × DD) => ∀ (H : Heap) (locs : List Loc) (ls : Array Slot), va_P D classes (wld ct ad G s2.2.2) H → va_D A (wld ct ad G s2.2.2) → va_S A s.heap H locs → lv_has ls 12 [(7, .int s2.2.1), (6, .int s2.1), (0, .ref (ad a)), (1, va_re ad p0), (2, va_re ad p1), (3, .int p2), (4, .int p3), (5, .int p4)] → W p l e (headSpec wsX6_measureColours ({ frames := 2, cells := 0, slots := 0, locals := 54 })).room s m ([.ref (ad a), va_re ad p0, va_re ad p1, .int p2, .int p3, .int p4] : List Value).toArray below meth c H locs 0 0 (MQ below (va_Qi (fun (q : Int32) (_ : Unit) => q = y.2) (fun _ t => kE D ct ad G A y.1 t) A) ([.ref (ad a), va_re ad p0, va_re ad p1, .int p2, .int p3, .int p4] : List Value).toArray s 0 0 A) (F0 m 6 ls [])) ?_ _ _ hy1 _ _ _ hP hD hS (lv_sub hl [0, 1, 2, 3, 4, 5, 6, 7] rfl)
  rintro s2 ⟨z4, hF, hwz4⟩ H locs ls hP hD hS hl
  try dsimp only at hF
  refine lv_iload hx hb dX6_measureColours_6 (lv_at hl 0 rfl) ?_
  refine lv_iconst (v := (3 : Int32)) hx hb dX6_measureColours_8 (by decide) ?_
  refine lv_icmp_ge (tgt := 276) hx hb dX6_measureColours_9 (by decide) (fun c5 => ?_) (fun c5 => ?_)
  · rw [if_pos c5] at hF
    obtain rfl := Option.some.inj hF
    subst hwz4
    exact K1 _ _ _ hP hD hS (lv_sub hl [0, 1, 2, 3, 4, 5, 6, 7] rfl)
  · rw [if_neg c5] at hF
    refine lv_iconst (v := (0 : Int32)) hx hb dX6_measureColours_12 (by decide) ?_
    refine lv_istore (lv' := [(8, .int (0 : Int32)), (7, .int s2.2.1), (6, .int s2.1), (0, .ref (ad a)), (1, va_re ad p0), (2, va_re ad p1), (3, .int p2), (4, .int p3), (5, .int p4)]) hx hb dX6_measureColours_13 hl (by decide) rfl (fun ls hl => ?_)
    obtain ⟨y6, hy6, hF⟩ := bnd_some hF
    have K6 : ∀ (H : Heap) (locs : List Loc) (ls : Array Slot), va_P D classes (wld ct ad G y6.2.2) H → va_D A (wld ct ad G y6.2.2) → va_S A s.heap H locs → lv_has ls 12 [(8, .int y6.2.1), (7, .int s2.2.1), (6, .int y6.1), (0, .ref (ad a)), (1, va_re ad p0), (2, va_re ad p1), (3, .int p2), (4, .int p3), (5, .int p4)] → W p l e (headSpec wsX6_measureColours ({ frames := 2, cells := 0, slots := 0, locals := 54 })).room s m ([.ref (ad a), va_re ad p0, va_re ad p1, .int p2, .int p3, .int p4] : List Value).toArray below meth c H locs 0 0 (MQ below (va_Qi (fun (q : Int32) (_ : Unit) => q = y.2) (fun _ t => kE D ct ad G A y.1 t) A) ([.ref (ad a), va_re ad p0, va_re ad p1, .int p2, .int p3, .int p4] : List Value).toArray s 0 0 A) (F0 m 170 ls []) := by
      intro H locs ls hP hD hS hl
      refine lv_aload_n hx hb dX6_measureColours_170 rfl (lv_at hl 3 rfl) ?_
      obtain ⟨y9, hy9, hF⟩ := bnd_some hF
      have hf9 := wA_in hD hA9 hS
      refine va_callv (va_runV (As := []) (rest := []) ⟨hx, hb, hml, hown, hts⟩ (kX6_turnFour l D ct ad Z G y6.2.2 H.size a y9 hc hk hy9) (cwV 0 hts gX6_measureColours_X6_turnFour rfl rfl rfl (by decide +kernel) ⟨Nat.le_of_ble_eq_true rfl, Nat.le_of_ble_eq_true rfl⟩) ⟨fun a U g mk q => by obtain ⟨q0, q1, qP, qK, qD, qZ, qN⟩ := q; exact ⟨q0, q1, qP, va_K.moved (u := U) (U := U.calling g mk a) (Vm.Alike.refl U.vm) qK, qD, sF.moved (u := U) (U := U.calling g mk a) (Vm.Alike.refl U.vm) qZ, nF.same rfl qN⟩, va_recv hK hP (ci := 6) (q0 := a) rfl (wld_o ct ad G y6.2.2 hc hk (by decide)), fun U hU hW => ⟨rfl, by rw [hU], by rw [hU]; exact hP, va_K.moved hW.alike hK, hD.weaken (fun _ _ _ _ => trivial), by rw [hU]; exact ((hZ.kept hS.2.1).narrow hf9).moved hW.alike, hN.warm hW⟩⟩ rfl rfl hl.1 rfl (lv_room (Nat.le_of_ble_eq_true rfl)) dX6_measureColours_171 ⟨(Nat.zero_le _), (Nat.zero_le _)⟩) hS (fun q _ h => hf9 q h) hf9 (fun u t H locs ht hvm hw hB hz1 hk1 hS => ?_)
      obtain ⟨hP, hK9, hD9⟩ := hB
      rw [ht] at hP
      have hD := hD9.weaken (fun _ q _ h => hf9 q.1 h)
      refine lv_iload_n hx hb dX6_measureColours_174 rfl (lv_at hl 6 rfl) ?_
      refine lv_bipush (v := (16 : Int32)) hx hb dX6_measureColours_175 (by decide) ?_
      refine lv_iload hx hb dX6_measureColours_177 (lv_at hl 1 rfl) ?_
      refine lv_iadd hx hb dX6_measureColours_179 ?_
      obtain ⟨x10, ex10, hF⟩ := ltt_some hF
      refine lv_topi (fun zx10 ezx10 => ?_)
      obtain rfl : x10 = zx10 := ex10.trans ezx10.symm
      obtain ⟨y11, hy11, hF⟩ := bnd_some hF
      have hf9 := wA_in hD hA9 hS
      refine va_calli (va_runS (As := [.int p2, .int x10]) (rest := []) ⟨hx, hb, hml, hown, hts⟩ (kX9_levelAt l D ct ad Z G y9 H.size p2 x10 y11 hy11) (va_cwS 2 hts gX6_measureColours_X9_levelAt rfl rfl rfl (by decide +kernel) ⟨Nat.le_of_ble_eq_true rfl, Nat.le_of_ble_eq_true rfl⟩) ⟨fun a U g mk q => by obtain ⟨q0, q1, qP, qK, qD, qZ, qN⟩ := q; exact ⟨q0, q1, qP, va_K.moved (u := U) (U := U.calling g mk a) (Vm.Alike.refl U.vm) qK, qD, sF.moved (u := U) (U := U.calling g mk a) (Vm.Alike.refl U.vm) qZ, nF.same rfl qN⟩, fun U hU hW => ⟨rfl, by rw [hU], by rw [hU]; exact hP, va_K.moved hW.alike hK, hD.weaken (fun _ _ _ _ => trivial), by rw [hU]; exact ((hZ.kept hS.2.1).narrow hf9).moved hW.alike, hN.warm hW⟩⟩ rfl rfl hl.1 rfl (lv_room (Nat.le_of_ble_eq_true rfl)) dX6_measureColours_180 ⟨(Nat.zero_le _), (Nat.zero_le _)⟩) hS (fun q _ h => hf9 q h) hf9 (fun r u t H locs ht hvm hw hB hz1 hk1 hS => ?_)
      obtain ⟨hP, hK9, hD9⟩ := hB
      rw [ht] at hP
      try dsimp only at hw
      subst hw
      have hD := hD9.weaken (fun _ q _ h => hf9 q.1 h)
      refine lv_istore (lv' := [(8, .int y11.2), (7, .int s2.2.1), (6, .int y6.1), (0, .ref (ad a)), (1, va_re ad p0), (2, va_re ad p1), (3, .int p2), (4, .int p3), (5, .int p4)]) hx hb dX6_measureColours_183 hl (by decide) rfl (fun ls hl => ?_)
      refine lv_iconst (v := (0 : Int32)) hx hb dX6_measureColours_185 (by decide) ?_
      refine lv_istore (lv' := [(9, .int (0 : Int32)), (8, .int y11.2), (7, .int s2.2.1), (6, .int y6.1), (0, .ref (ad a)), (1, va_re ad p0), (2, va_re ad p1), (3, .int p2), (4, .int p3), (5, .int p4)]) hx hb dX6_measureColours_186 hl (by decide) rfl (fun ls hl => ?_)
      obtain ⟨y12, hy12, hF⟩ := bnd_some hF
      have K12 : ∀ (H : Heap) (locs : List Loc) (ls : Array Slot), va_P D classes (wld ct ad G y12.2.2) H → va_D A (wld ct ad G y12.2.2) → va_S A s.heap H locs → lv_has ls 12 [(9, .int y12.2.1), (8, .int y11.2), (7, .int s2.2.1), (6, .int y12.1), (0, .ref (ad a)), (1, va_re ad p0), (2, va_re ad p1), (3, .int p2), (4, .int p3), (5, .int p4)] → W p l e (headSpec wsX6_measureColours ({ frames := 2, cells := 0, slots := 0, locals := 54 })).room s m ([.ref (ad a), va_re ad p0, va_re ad p1, .int p2, .int p3, .int p4] : List Value).toArray below meth c H locs 0 0 (MQ below (va_Qi (fun (q : Int32) (_ : Unit) => q = y.2) (fun _ t => kE D ct ad G A y.1 t) A) ([.ref (ad a), va_re ad p0, va_re ad p1, .int p2, .int p3, .int p4] : List Value).toArray s 0 0 A) (F0 m 270 ls []) := by
        intro H locs ls hP hD hS hl
        obtain ⟨x15, ex15, hF⟩ := ltt_some hF
        refine lv_iinc (v := x15) (lv' := [(7, .int x15), (9, .int y12.2.1), (8, .int y11.2), (6, .int y12.1), (0, .ref (ad a)), (1, va_re ad p0), (2, va_re ad p1), (3, .int p2), (4, .int p3), (5, .int p4)]) hx hb dX6_measureColours_270 hl (k := 2) rfl (by rw [ex15]; rfl) (by decide) rfl (fun ls hl => ?_)
        refine lv_goto (tgt := 6) hx hb dX6_measureColours_273 (by decide) ?_
        obtain rfl := Option.some.inj hF
        exact hwz4 _ _ _ hP hD hS (lv_sub hl [0, 3, 4, 5, 6, 7, 8, 9] rfl)
      clear hF
      refine itr_rule (fun (s13 : Int32 × Int32 × DD) => ∀ (H : Heap) (locs : List Loc) (ls : Array Slot), va_P D classes (wld ct ad G s13.2.2) H → va_D A (wld ct ad G s13.2.2) → va_S A s.heap H locs → lv_has ls 12 [(9, .int s13.2.1), (8, .int y11.2), (7, .int s2.2.1), (6, .int s13.1), (0, .ref (ad a)), (1, va_re ad p0), (2, va_re ad p1), (3, .int p2), (4, .int p3), (5, .int p4)] → W p l e (headSpec wsX6_measureColours ({ frames := 2, cells := 0, slots := 0, locals := 54 })).room s m ([.ref (ad a), va_re ad p0, va_re ad p1, .int p2, .int p3, .int p4] : List Value).toArray below meth c H locs 0 0 (MQ below (va_Qi (fun (q : Int32) (_ : Unit) => q = y.2) (fun _ t => kE D ct ad G A y.1 t) A) ([.ref (ad a), va_re ad p0, va_re ad p1, .int p2, .int p3, .int p4] : List Value).toArray s 0 0 A) (F0 m 188 ls [])) ?_ _ _ hy12 _ _ _ hP hD hS (lv_sub hl [0, 1, 2, 3, 4, 5, 6, 7, 8, 9] rfl)
      rintro s13 ⟨z16, hF, hwz16⟩ H locs ls hP hD hS hl
      try dsimp only at hF
      refine lv_iload hx hb dX6_measureColours_188 (lv_at hl 0 rfl) ?_
      refine lv_iconst (v := (4 : Int32)) hx hb dX6_measureColours_190 (by decide) ?_
      refine lv_icmp_ge (tgt := 270) hx hb dX6_measureColours_191 (by decide) (fun c17 => ?_) (fun c17 => ?_)
      · rw [if_pos c17] at hF
        obtain rfl := Option.some.inj hF
        subst hwz16
        exact K12 _ _ _ hP hD hS (lv_sub hl [0, 1, 2, 3, 4, 5, 6, 7, 8, 9] rfl)
      · rw [if_neg c17] at hF
        refine lv_aload_n hx hb dX6_measureColours_194 rfl (lv_at hl 4 rfl) ?_
        refine va_get (D := D) (ci := 6) (v := va_re ad (s13.2.2.2 a 7)) (C := RX6) (T := TX6) (N := 14) hx hb hts (by decide +kernel) hown hK hP a (wld_o ct ad G s13.2.2 hc hk (by decide)) rfl 7 (by decide) (hts (.fieldLink RX6 33 "VideoSuite$Samples" "even" "[I") (by decide +kernel)) (fun _ h9 => h9) rfl dX6_measureColours_195 ?_
        refine lv_iload hx hb dX6_measureColours_198 (lv_at hl 0 rfl) ?_
        obtain ⟨b18, ho18, hc18, hk18, hF⟩ := dr_some hF
        refine W_st (st' := [.int s13.2.1, .ref (ad b18)]) (by rw [va_some ho18]) ?_
        obtain ⟨hvc, hF⟩ := chk_some hF
        refine va_iald hx hb hK hP b18 1 (wld_i ct ad G s13.2.2 hc18 hk18) rfl hvc dX6_measureColours_200 ?_
        obtain ⟨x19, ex19, hF⟩ := ltt_some hF
        refine lv_topi (fun zx19 ezx19 => ?_)
        obtain rfl : x19 = zx19 := ex19.trans ezx19.symm
        refine va_gets hx hb (hZ.1 12 (by decide)).1 hS hown (hts (.fieldLink RX6 259 "VideoSuite$Samples" "MEASURE" "[I") (by decide +kernel)) (fun _ h => h) dX6_measureColours_201 ?_
        refine lv_iload hx hb dX6_measureColours_204 (lv_at hl 8 rfl) ?_
        refine lv_iconst (v := (0 : Int32)) hx hb dX6_measureColours_206 (by decide) ?_
        refine lv_iconst (v := (0 : Int32)) hx hb dX6_measureColours_207 (by decide) ?_
        obtain ⟨y20, hy20, hF⟩ := bnd_some hF
        have hf9 := wA_in hD hA9 hS
        refine va_calli (va_runS (As := [.int p3, .int (0 : Int32), .int (0 : Int32)]) (rest := [.ref (Z 12), .int x19]) ⟨hx, hb, hml, hown, hts⟩ (kX6_normAt l D ct ad Z G s13.2.2 H.size p3 ((0 : Int32)) ((0 : Int32)) y20 hy20) (va_cwS 3 hts gX6_measureColours_X6_normAt rfl rfl rfl (by decide +kernel) ⟨Nat.le_of_ble_eq_true rfl, Nat.le_of_ble_eq_true rfl⟩) ⟨fun a U g mk q => by obtain ⟨q0, q1, qP, qK, qD, qZ, qN⟩ := q; exact ⟨q0, q1, qP, va_K.moved (u := U) (U := U.calling g mk a) (Vm.Alike.refl U.vm) qK, qD, sF.moved (u := U) (U := U.calling g mk a) (Vm.Alike.refl U.vm) qZ, nF.same rfl qN⟩, fun U hU hW => ⟨rfl, by rw [hU], by rw [hU]; exact hP, va_K.moved hW.alike hK, hD.weaken (fun _ _ _ _ => trivial), by rw [hU]; exact ((hZ.kept hS.2.1).narrow hf9).moved hW.alike, hN.warm hW⟩⟩ rfl rfl hl.1 rfl (lv_room (Nat.le_of_ble_eq_true rfl)) dX6_measureColours_208 ⟨(Nat.zero_le _), (Nat.zero_le _)⟩) hS (fun q _ h => hf9 q h) hf9 (fun r u t H locs ht hvm hw hB hz1 hk1 hS => ?_)
        obtain ⟨hP, hK9, hD9⟩ := hB
        rw [ht] at hP
        try dsimp only at hw
        subst hw
        have hD := hD9.weaken (fun _ q _ h => hf9 q.1 h)
        obtain ⟨hvc, hF⟩ := chk_some hF
        refine va_ti (v := .int ((sT 12).getD y20.2.toNatClampNeg 0)) hx hb (hZ.1 12 (by decide)).2 hS hvc rfl dX6_measureColours_211 ?_
        obtain ⟨x21, ex21, hF⟩ := ltt_some hF
        refine lv_topi (fun zx21 ezx21 => ?_)
        obtain rfl : x21 = zx21 := ex21.trans ezx21.symm
        refine lv_iconst (v := (2 : Int32)) hx hb dX6_measureColours_212 (by decide) ?_
        refine lv_iload hx hb dX6_measureColours_213 (lv_at hl 8 rfl) ?_
        refine lv_iload hx hb dX6_measureColours_215 (lv_at hl 9 rfl) ?_
        obtain ⟨y22, hy22, hF⟩ := bnd_some hF
        have hf9 := wA_in hD hA9 hS
        refine va_calli (va_runS (As := [.int p3, .int p4]) (rest := [.int (2 : Int32), .int x21, .int x19]) ⟨hx, hb, hml, hown, hts⟩ (kX6_roundingOf l D ct ad Z G y20.1 H.size p3 p4 y22 hy22) (va_cwS 2 hts gX6_measureColours_X6_roundingOf rfl rfl rfl (by decide +kernel) ⟨Nat.le_of_ble_eq_true rfl, Nat.le_of_ble_eq_true rfl⟩) ⟨fun a U g mk q => by obtain ⟨q0, q1, qP, qK, qD, qZ, qN⟩ := q; exact ⟨q0, q1, qP, va_K.moved (u := U) (U := U.calling g mk a) (Vm.Alike.refl U.vm) qK, qD, sF.moved (u := U) (U := U.calling g mk a) (Vm.Alike.refl U.vm) qZ, nF.same rfl qN⟩, fun U hU hW => ⟨rfl, by rw [hU], by rw [hU]; exact hP, va_K.moved hW.alike hK, hD.weaken (fun _ _ _ _ => trivial), by rw [hU]; exact ((hZ.kept hS.2.1).narrow hf9).moved hW.alike, hN.warm hW⟩⟩ rfl rfl hl.1 rfl (lv_room (Nat.le_of_ble_eq_true rfl)) dX6_measureColours_217 ⟨(Nat.zero_le _), (Nat.zero_le _)⟩) hS (fun q _ h => hf9 q h) hf9 (fun r u t H locs ht hvm hw hB hz1 hk1 hS => ?_)
        obtain ⟨hP, hK9, hD9⟩ := hB
        rw [ht] at hP
        try dsimp only at hw
        subst hw
        have hD := hD9.weaken (fun _ q _ h => hf9 q.1 h)
        refine lv_imul hx hb dX6_measureColours_220 ?_
        obtain ⟨x23, ex23, hF⟩ := ltt_some hF
        refine lv_topi (fun zx23 ezx23 => ?_)
        obtain rfl : x23 = zx23 := ex23.trans ezx23.symm
        refine lv_bipush (v := (16 : Int32)) hx hb dX6_measureColours_221 (by decide) ?_
        refine lv_iload hx hb dX6_measureColours_223 (lv_at hl 8 rfl) ?_
        refine lv_bipush (v := (6 : Int32)) hx hb dX6_measureColours_225 (by decide) ?_
        refine lv_idiv hx hb dX6_measureColours_227 (by decide) ?_
        obtain ⟨x24, ex24, hF⟩ := ltt_some hF
        refine lv_topi (fun zx24 ezx24 => ?_)
        obtain rfl : x24 = zx24 := ex24.trans ezx24.symm
        refine lv_iadd hx hb dX6_measureColours_228 ?_
        obtain ⟨x25, ex25, hF⟩ := ltt_some hF
        refine lv_topi (fun zx25 ezx25 => ?_)
        obtain rfl : x25 = zx25 := ex25.trans ezx25.symm
        obtain ⟨y26, hy26, hF⟩ := bnd_some hF
        have hf9 := wA_in hD hA9 hS
        refine va_calli (va_runS (As := [.int x19, .int x21, .int x23, .int x25]) (rest := []) ⟨hx, hb, hml, hown, hts⟩ (kX6_measured l D ct ad Z G y22.1 H.size x19 x21 x23 x25 y26 hy26) (va_cwS 4 hts gX6_measureColours_X6_measured rfl rfl rfl (by decide +kernel) ⟨Nat.le_of_ble_eq_true rfl, Nat.le_of_ble_eq_true rfl⟩) ⟨fun a U g mk q => by obtain ⟨q0, q1, qP, qK, qD, qZ, qN⟩ := q; exact ⟨q0, q1, qP, va_K.moved (u := U) (U := U.calling g mk a) (Vm.Alike.refl U.vm) qK, qD, sF.moved (u := U) (U := U.calling g mk a) (Vm.Alike.refl U.vm) qZ, nF.same rfl qN⟩, fun U hU hW => ⟨rfl, by rw [hU], by rw [hU]; exact hP, va_K.moved hW.alike hK, hD.weaken (fun _ _ _ _ => trivial), by rw [hU]; exact ((hZ.kept hS.2.1).narrow hf9).moved hW.alike, hN.warm hW⟩⟩ rfl rfl hl.1 rfl (lv_room (Nat.le_of_ble_eq_true rfl)) dX6_measureColours_229 ⟨(Nat.zero_le _), (Nat.zero_le _)⟩) hS (fun q _ h => hf9 q h) hf9 (fun r u t H locs ht hvm hw hB hz1 hk1 hS => ?_)
        obtain ⟨hP, hK9, hD9⟩ := hB
        rw [ht] at hP
        try dsimp only at hw
        subst hw
        have hD := hD9.weaken (fun _ q _ h => hf9 q.1 h)
        refine lv_istore (lv' := [(10, .int y26.2), (9, .int s13.2.1), (8, .int y11.2), (7, .int s2.2.1), (6, .int s13.1), (0, .ref (ad a)), (1, va_re ad p0), (2, va_re ad p1), (3, .int p2), (4, .int p3), (5, .int p4)]) hx hb dX6_measureColours_232 hl (by decide) rfl (fun ls hl => ?_)
        refine lv_aloadq_n hx hb dX6_measureColours_234 rfl (lv_at hl 6 rfl) ?_
        obtain ⟨b27, ho27, hc27, hk27, hF⟩ := dr_some hF
        refine W_st (st' := [.ref (ad b27)]) (by rw [va_some ho27]) ?_
        refine va_get (D := D) (ci := 9) (v := va_re ad (y26.1.2 b27 9)) (C := RX9) (T := TX9) (N := 20) hx hb hts (by decide +kernel) hown hK hP b27 (wld_o ct ad G y26.1 hc27 hk27 (by decide)) rfl 9 (by decide) (hts (.fieldLink RX6 234 "VideoSuite$Work" "level" "[I") (by decide +kernel)) (fun _ h9 => h9) rfl dX6_measureColours_235 ?_
        refine lv_iload hx hb dX6_measureColours_238 (lv_at hl 2 rfl) ?_
        refine lv_iload hx hb dX6_measureColours_240 (lv_at hl 1 rfl) ?_
        refine lv_iadd hx hb dX6_measureColours_242 ?_
        obtain ⟨x28, ex28, hF⟩ := ltt_some hF
        refine lv_topi (fun zx28 ezx28 => ?_)
        obtain rfl : x28 = zx28 := ex28.trans ezx28.symm
        refine lv_iload hx hb dX6_measureColours_243 (lv_at hl 0 rfl) ?_
        obtain ⟨b29, ho29, hc29, hk29, hF⟩ := dr_some hF
        refine W_st (st' := [.int y26.2, .int x28, .ref (ad b29)]) (by rw [va_some ho29]) ?_
        obtain ⟨hvc, hF⟩ := chk_some hF
        refine va_iast hx hb hK hP hD hS b29 1 (wld_i ct ad G y26.1 hc29 hk29) rfl hvc dX6_measureColours_245 (fun H locs hP hD hS => ?_)
        obtain ⟨M30, eM30, hF⟩ := ltt_some hF
        rw [set_i ct ad G y26.1 hc29 hk29, ← eM30] at hP hD
        refine lv_iload hx hb dX6_measureColours_246 (lv_at hl 0 rfl) ?_
        obtain ⟨y31, hy31, hF⟩ := bnd_some hF
        have J31 : ∀ (H : Heap) (locs : List Loc) (ls : Array Slot), va_P D classes (wld ct ad G M30) H → va_D A (wld ct ad G M30) → va_S A s.heap H locs → lv_has ls 12 [(10, .int y26.2), (9, .int s13.2.1), (8, .int y11.2), (7, .int s2.2.1), (6, .int s13.1), (0, .ref (ad a)), (1, va_re ad p0), (2, va_re ad p1), (3, .int p2), (4, .int p3), (5, .int p4)] → W p l e (headSpec wsX6_measureColours ({ frames := 2, cells := 0, slots := 0, locals := 54 })).room s m ([.ref (ad a), va_re ad p0, va_re ad p1, .int p2, .int p3, .int p4] : List Value).toArray below meth c H locs 0 0 (MQ below (va_Qi (fun (q : Int32) (_ : Unit) => q = y.2) (fun _ t => kE D ct ad G A y.1 t) A) ([.ref (ad a), va_re ad p0, va_re ad p1, .int p2, .int p3, .int p4] : List Value).toArray s 0 0 A) (F0 m 262 ls [.int y31]) := by
          intro H locs ls hP hD hS hl
          refine lv_istore (lv' := [(6, .int y31), (10, .int y26.2), (9, .int s13.2.1), (8, .int y11.2), (7, .int s2.2.1), (0, .ref (ad a)), (1, va_re ad p0), (2, va_re ad p1), (3, .int p2), (4, .int p3), (5, .int p4)]) hx hb dX6_measureColours_262 hl (by decide) rfl (fun ls hl => ?_)
          obtain ⟨x32, ex32, hF⟩ := ltt_some hF
          refine lv_iinc (v := x32) (lv' := [(9, .int x32), (6, .int y31), (10, .int y26.2), (8, .int y11.2), (7, .int s2.2.1), (0, .ref (ad a)), (1, va_re ad p0), (2, va_re ad p1), (3, .int p2), (4, .int p3), (5, .int p4)]) hx hb dX6_measureColours_264 hl (k := 2) rfl (by rw [ex32]; rfl) (by decide) rfl (fun ls hl => ?_)
          refine lv_goto (tgt := 188) hx hb dX6_measureColours_267 (by decide) ?_
          obtain rfl := Option.some.inj hF
          exact hwz16 _ _ _ hP hD hS (lv_sub hl [0, 3, 4, 1, 5, 6, 7, 8, 9, 10] rfl)
        clear hF
        have hF := hy31
        clear hy31
        refine lv_if_eq (tgt := 260) hx hb dX6_measureColours_248 (by decide) (fun c33 => ?_) (fun c33 => ?_)
        · rw [if_pos c33] at hF
          refine lv_iload hx hb dX6_measureColours_260 (lv_at hl 4 rfl) ?_
          obtain rfl := Option.some.inj hF
          exact J31 _ _ _ hP hD hS (lv_sub hl [0, 1, 2, 3, 4, 5, 6, 7, 8, 9, 10] rfl)
        · rw [if_neg c33] at hF
          refine lv_iload hx hb dX6_measureColours_251 (lv_at hl 4 rfl) ?_
          obtain ⟨y34, hy34, hF⟩ := bnd_some hF
          have J34 : ∀ (H : Heap) (locs : List Loc) (ls : Array Slot), va_P D classes (wld ct ad G M30) H → va_D A (wld ct ad G M30) → va_S A s.heap H locs → lv_has ls 12 [(10, .int y26.2), (9, .int s13.2.1), (8, .int y11.2), (7, .int s2.2.1), (6, .int s13.1), (0, .ref (ad a)), (1, va_re ad p0), (2, va_re ad p1), (3, .int p2), (4, .int p3), (5, .int p4)] → W p l e (headSpec wsX6_measureColours ({ frames := 2, cells := 0, slots := 0, locals := 54 })).room s m ([.ref (ad a), va_re ad p0, va_re ad p1, .int p2, .int p3, .int p4] : List Value).toArray below meth c H locs 0 0 (MQ below (va_Qi (fun (q : Int32) (_ : Unit) => q = y.2) (fun _ t => kE D ct ad G A y.1 t) A) ([.ref (ad a), va_re ad p0, va_re ad p1, .int p2, .int p3, .int p4] : List Value).toArray s 0 0 A) (F0 m 262 ls [.int y34]) := by
            intro H locs ls hP hD hS hl
            obtain rfl := Option.some.inj hF
            exact J31 _ _ _ hP hD hS (lv_sub hl [0, 1, 2, 3, 4, 5, 6, 7, 8, 9, 10] rfl)
          clear hF
          have hF := hy34
          clear hy34
          refine lv_if_ne (tgt := 260) hx hb dX6_measureColours_253 (by decide) (fun c35 => ?_) (fun c35 => ?_)
          · rw [if_neg c35] at hF
            refine lv_iload hx hb dX6_measureColours_260 (lv_at hl 4 rfl) ?_
            obtain rfl := Option.some.inj hF
            exact J34 _ _ _ hP hD hS (lv_sub hl [0, 1, 2, 3, 4, 5, 6, 7, 8, 9, 10] rfl)
          · rw [if_pos c35] at hF
            refine lv_iconst (v := (1 : Int32)) hx hb dX6_measureColours_256 (by decide) ?_
            refine lv_goto (tgt := 262) hx hb dX6_measureColours_257 (by decide) ?_
            obtain rfl := Option.some.inj hF
            exact J34 _ _ _ hP hD hS (lv_sub hl [0, 1, 2, 3, 4, 5, 6, 7, 8, 9, 10] rfl)
    clear hF
    refine itr_rule (fun (s7 : Int32 × Int32 × DD) => ∀ (H : Heap) (locs : List Loc) (ls : Array Slot), va_P D classes (wld ct ad G s7.2.2) H → va_D A (wld ct ad G s7.2.2) → va_S A s.heap H locs → lv_has ls 12 [(8, .int s7.2.1), (7, .int s2.2.1), (6, .int s7.1), (0, .ref (ad a)), (1, va_re ad p0), (2, va_re ad p1), (3, .int p2), (4, .int p3), (5, .int p4)] → W p l e (headSpec wsX6_measureColours ({ frames := 2, cells := 0, slots := 0, locals := 54 })).room s m ([.ref (ad a), va_re ad p0, va_re ad p1, .int p2, .int p3, .int p4] : List Value).toArray below meth c H locs 0 0 (MQ below (va_Qi (fun (q : Int32) (_ : Unit) => q = y.2) (fun _ t => kE D ct ad G A y.1 t) A) ([.ref (ad a), va_re ad p0, va_re ad p1, .int p2, .int p3, .int p4] : List Value).toArray s 0 0 A) (F0 m 15 ls [])) ?_ _ _ hy6 _ _ _ hP hD hS (lv_sub hl [0, 1, 2, 3, 4, 5, 6, 7, 8] rfl)
    rintro s7 ⟨z36, hF, hwz36⟩ H locs ls hP hD hS hl
    try dsimp only at hF
    refine lv_iload hx hb dX6_measureColours_15 (lv_at hl 0 rfl) ?_
    refine lv_iconst (v := (4 : Int32)) hx hb dX6_measureColours_17 (by decide) ?_
    refine lv_icmp_ge (tgt := 170) hx hb dX6_measureColours_18 (by decide) (fun c37 => ?_) (fun c37 => ?_)
    · rw [if_pos c37] at hF
      obtain rfl := Option.some.inj hF
      subst hwz36
      exact K6 _ _ _ hP hD hS (lv_sub hl [0, 1, 2, 3, 4, 5, 6, 7, 8] rfl)
    · rw [if_neg c37] at hF
      refine lv_iload hx hb dX6_measureColours_21 (lv_at hl 0 rfl) ?_
      refine lv_iconst (v := (2 : Int32)) hx hb dX6_measureColours_23 (by decide) ?_
      refine lv_irem hx hb dX6_measureColours_24 (by decide) ?_
      obtain ⟨x38, ex38, hF⟩ := ltt_some hF
      refine lv_topi (fun zx38 ezx38 => ?_)
      obtain rfl : x38 = zx38 := ex38.trans ezx38.symm
      refine lv_iconst (v := (4 : Int32)) hx hb dX6_measureColours_25 (by decide) ?_
      refine lv_imul hx hb dX6_measureColours_26 ?_
      obtain ⟨x39, ex39, hF⟩ := ltt_some hF
      refine lv_topi (fun zx39 ezx39 => ?_)
      obtain rfl : x39 = zx39 := ex39.trans ezx39.symm
      refine lv_istore (lv' := [(9, .int x39), (8, .int s7.2.1), (7, .int s2.2.1), (6, .int s7.1), (0, .ref (ad a)), (1, va_re ad p0), (2, va_re ad p1), (3, .int p2), (4, .int p3), (5, .int p4)]) hx hb dX6_measureColours_27 hl (by decide) rfl (fun ls hl => ?_)
      refine lv_iload hx hb dX6_measureColours_29 (lv_at hl 1 rfl) ?_
      refine lv_iconst (v := (2 : Int32)) hx hb dX6_measureColours_31 (by decide) ?_
      refine lv_idiv hx hb dX6_measureColours_32 (by decide) ?_
      obtain ⟨x40, ex40, hF⟩ := ltt_some hF
      refine lv_topi (fun zx40 ezx40 => ?_)
      obtain rfl : x40 = zx40 := ex40.trans ezx40.symm
      refine lv_iconst (v := (4 : Int32)) hx hb dX6_measureColours_33 (by decide) ?_
      refine lv_imul hx hb dX6_measureColours_34 ?_
      obtain ⟨x41, ex41, hF⟩ := ltt_some hF
      refine lv_topi (fun zx41 ezx41 => ?_)
      obtain rfl : x41 = zx41 := ex41.trans ezx41.symm
      refine lv_istore (lv' := [(10, .int x41), (9, .int x39), (8, .int s7.2.1), (7, .int s2.2.1), (6, .int s7.1), (0, .ref (ad a)), (1, va_re ad p0), (2, va_re ad p1), (3, .int p2), (4, .int p3), (5, .int p4)]) hx hb dX6_measureColours_35 hl (by decide) rfl (fun ls hl => ?_)
      refine lv_aload_n hx hb dX6_measureColours_37 rfl (lv_at hl 5 rfl) ?_
      refine lv_aloadq_n hx hb dX6_measureColours_38 rfl (lv_at hl 7 rfl) ?_
      refine lv_iload hx hb dX6_measureColours_39 (lv_at hl 3 rfl) ?_
      obtain ⟨b42, ho42, hc42, hk42, hF⟩ := dr_some hF
      refine W_st (st' := [.int s2.2.1, .ref (ad b42), .ref (ad a)]) (by rw [va_some ho42]) ?_
      obtain ⟨hvc, hF⟩ := chk_some hF
      refine ld_g hx hb hK hP hc42 hk42 hvc dX6_measureColours_41 ?_
      refine lv_aloadq_n hx hb dX6_measureColours_42 rfl (lv_at hl 6 rfl) ?_
      obtain ⟨b43, ho43, hc43, hk43, hF⟩ := dr_some hF
      refine W_st (st' := [.ref (ad b43), va_re ad (s7.2.2.2 b42 s2.2.1.toNatClampNeg), .ref (ad a)]) (by rw [va_some ho43]) ?_
      refine va_get (D := D) (ci := 9) (v := va_re ad (s7.2.2.2 b43 0)) (C := RX9) (T := TX9) (N := 20) hx hb hts (by decide +kernel) hown hK hP b43 (wld_o ct ad G s7.2.2 hc43 hk43 (by decide)) rfl 0 (by decide) (hts (.fieldLink RX6 46 "VideoSuite$Work" "pic" "LVideoSuite$Picture;") (by decide +kernel)) (fun _ h9 => h9) rfl dX6_measureColours_43 ?_
      refine lv_iload_n hx hb dX6_measureColours_46 rfl (lv_at hl 8 rfl) ?_
      refine lv_iload hx hb dX6_measureColours_47 (lv_at hl 1 rfl) ?_
      refine lv_iload hx hb dX6_measureColours_49 (lv_at hl 0 rfl) ?_
      obtain ⟨y44, hy44, hF⟩ := bnd_some hF
      have hf9 := wA_in hD hA9 hS
      refine va_calli (va_runS (As := [va_re ad (s7.2.2.2 b43 0), .int p2, .int x39, .int x41]) (rest := [va_re ad (s7.2.2.2 b42 s2.2.1.toNatClampNeg), .ref (ad a)]) ⟨hx, hb, hml, hown, hts⟩ (kX6_colourAt l D ct ad Z G s7.2.2 H.size ((s7.2.2.2 b43 0)) p2 x39 x41 y44 hy44) (va_cwS 4 hts gX6_measureColours_X6_colourAt rfl rfl rfl (by decide +kernel) ⟨Nat.le_of_ble_eq_true rfl, Nat.le_of_ble_eq_true rfl⟩) ⟨fun a U g mk q => by obtain ⟨q0, q1, qP, qK, qD, qZ, qN⟩ := q; exact ⟨q0, q1, qP, va_K.moved (u := U) (U := U.calling g mk a) (Vm.Alike.refl U.vm) qK, qD, sF.moved (u := U) (U := U.calling g mk a) (Vm.Alike.refl U.vm) qZ, nF.same rfl qN⟩, fun U hU hW => ⟨rfl, by rw [hU], by rw [hU]; exact hP, va_K.moved hW.alike hK, hD.weaken (fun _ _ _ _ => trivial), by rw [hU]; exact ((hZ.kept hS.2.1).narrow hf9).moved hW.alike, hN.warm hW⟩⟩ rfl rfl hl.1 rfl (lv_room (by simp only [List.map, va_re_cat]; exact Nat.le_of_ble_eq_true rfl)) dX6_measureColours_51 ⟨(Nat.zero_le _), (Nat.zero_le _)⟩) hS (fun q _ h => hf9 q h) hf9 (fun r u t H locs ht hvm hw hB hz1 hk1 hS => ?_)
      obtain ⟨hP, hK9, hD9⟩ := hB
      rw [ht] at hP
      try dsimp only at hw
      subst hw
      have hD := hD9.weaken (fun _ q _ h => hf9 q.1 h)
      refine lv_bipush (v := (8 : Int32)) hx hb dX6_measureColours_54 (by decide) ?_
      refine lv_aloadq_n hx hb dX6_measureColours_56 rfl (lv_at hl 6 rfl) ?_
      refine W_st (st' := [.ref (ad b43), .int (8 : Int32), .int y44.2, va_re ad (s7.2.2.2 b42 s2.2.1.toNatClampNeg), .ref (ad a)]) (by rw [va_some ho43]) ?_
      refine va_get (D := D) (ci := 9) (v := va_re ad (y44.1.2 b43 0)) (C := RX9) (T := TX9) (N := 20) hx hb hts (by decide +kernel) hown hK hP b43 (wld_o ct ad G y44.1 hc43 hk43 (by decide)) rfl 0 (by decide) (hts (.fieldLink RX6 46 "VideoSuite$Work" "pic" "LVideoSuite$Picture;") (by decide +kernel)) (fun _ h9 => h9) rfl dX6_measureColours_57 ?_
      obtain ⟨b45, ho45, hc45, hk45, hF⟩ := dr_some hF
      refine W_st (st' := [.ref (ad b45), .int (8 : Int32), .int y44.2, va_re ad (s7.2.2.2 b42 s2.2.1.toNatClampNeg), .ref (ad a)]) (by rw [va_some ho45]) ?_
      refine va_get (D := D) (ci := 4) (v := .int (y44.1.1 b45 1)) (C := RX4) (T := TX4) (N := 18) hx hb hts (by decide +kernel) hown hK hP b45 (wld_o ct ad G y44.1 hc45 hk45 (by decide)) rfl 1 (by decide) (hts (.fieldLink RX6 83 "VideoSuite$Picture" "width" "I") (by decide +kernel)) (fun _ h9 => h9) rfl dX6_measureColours_60 ?_
      obtain ⟨x46, ex46, hF⟩ := ltt_some hF
      refine lv_topi (fun zx46 ezx46 => ?_)
      obtain rfl : x46 = zx46 := ex46.trans ezx46.symm
      refine lv_imul hx hb dX6_measureColours_63 ?_
      obtain ⟨x47, ex47, hF⟩ := ltt_some hF
      refine lv_topi (fun zx47 ezx47 => ?_)
      obtain rfl : x47 = zx47 := ex47.trans ezx47.symm
      refine lv_sipush (v := (192 : Int32)) hx hb dX6_measureColours_64 (by decide) ?_
      refine lv_bipush (v := (64 : Int32)) hx hb dX6_measureColours_67 (by decide) ?_
      refine lv_iload hx hb dX6_measureColours_69 (lv_at hl 3 rfl) ?_
      refine lv_imul hx hb dX6_measureColours_71 ?_
      obtain ⟨x48, ex48, hF⟩ := ltt_some hF
      refine lv_topi (fun zx48 ezx48 => ?_)
      obtain rfl : x48 = zx48 := ex48.trans ezx48.symm
      refine lv_iadd hx hb dX6_measureColours_72 ?_
      obtain ⟨x49, ex49, hF⟩ := ltt_some hF
      refine lv_topi (fun zx49 ezx49 => ?_)
      obtain rfl : x49 = zx49 := ex49.trans ezx49.symm
      refine lv_bipush (v := (8 : Int32)) hx hb dX6_measureColours_73 (by decide) ?_
      refine lv_iload hx hb dX6_measureColours_75 (lv_at hl 0 rfl) ?_
      refine lv_imul hx hb dX6_measureColours_77 ?_
      obtain ⟨x50, ex50, hF⟩ := ltt_some hF
      refine lv_topi (fun zx50 ezx50 => ?_)
      obtain rfl : x50 = zx50 := ex50.trans ezx50.symm
      refine lv_iadd hx hb dX6_measureColours_78 ?_
      obtain ⟨x51, ex51, hF⟩ := ltt_some hF
      refine lv_topi (fun zx51 ezx51 => ?_)
      obtain rfl : x51 = zx51 := ex51.trans ezx51.symm
      refine lv_iload hx hb dX6_measureColours_79 (lv_at hl 1 rfl) ?_
      refine lv_iadd hx hb dX6_measureColours_81 ?_
      obtain ⟨x52, ex52, hF⟩ := ltt_some hF
      refine lv_topi (fun zx52 ezx52 => ?_)
      obtain rfl : x52 = zx52 := ex52.trans ezx52.symm
      refine lv_bipush (v := (8 : Int32)) hx hb dX6_measureColours_82 (by decide) ?_
      obtain ⟨y53, hy53, hF⟩ := bnd_some hF
      have hf9 := wA_in hD hA9 hS
      refine va_callv (va_runV (As := [va_re ad (s7.2.2.2 b42 s2.2.1.toNatClampNeg), .int y44.2, .int x47, .int x52, .int (8 : Int32)]) (rest := []) ⟨hx, hb, hml, hown, hts⟩ (kX6_turn l D ct ad Z G y44.1 H.size a ((s7.2.2.2 b42 s2.2.1.toNatClampNeg)) y44.2 x47 x52 ((8 : Int32)) y53 hc hk hy53) (cwV 5 hts gX6_measureColours_X6_turn rfl rfl rfl (by decide +kernel) ⟨Nat.le_of_ble_eq_true rfl, Nat.le_of_ble_eq_true rfl⟩) ⟨fun a U g mk q => by obtain ⟨q0, q1, qP, qK, qD, qZ, qN⟩ := q; exact ⟨q0, q1, qP, va_K.moved (u := U) (U := U.calling g mk a) (Vm.Alike.refl U.vm) qK, qD, sF.moved (u := U) (U := U.calling g mk a) (Vm.Alike.refl U.vm) qZ, nF.same rfl qN⟩, va_recv hK hP (ci := 6) (q0 := a) rfl (wld_o ct ad G y44.1 hc hk (by decide)), fun U hU hW => ⟨rfl, by rw [hU], by rw [hU]; exact hP, va_K.moved hW.alike hK, hD.weaken (fun _ _ _ _ => trivial), by rw [hU]; exact ((hZ.kept hS.2.1).narrow hf9).moved hW.alike, hN.warm hW⟩⟩ rfl rfl hl.1 rfl (lv_room (Nat.le_of_ble_eq_true rfl)) dX6_measureColours_84 ⟨(Nat.zero_le _), (Nat.zero_le _)⟩) hS (fun q _ h => hf9 q h) hf9 (fun u t H locs ht hvm hw hB hz1 hk1 hS => ?_)
      obtain ⟨hP, hK9, hD9⟩ := hB
      rw [ht] at hP
      have hD := hD9.weaken (fun _ q _ h => hf9 q.1 h)
      refine lv_aload_n hx hb dX6_measureColours_87 rfl (lv_at hl 5 rfl) ?_
      refine va_get (D := D) (ci := 6) (v := va_re ad (y53.2 a 7)) (C := RX6) (T := TX6) (N := 14) hx hb hts (by decide +kernel) hown hK hP a (wld_o ct ad G y53 hc hk (by decide)) rfl 7 (by decide) (hts (.fieldLink RX6 33 "VideoSuite$Samples" "even" "[I") (by decide +kernel)) (fun _ h9 => h9) rfl dX6_measureColours_88 ?_
      refine lv_iload hx hb dX6_measureColours_91 (lv_at hl 2 rfl) ?_
      refine lv_aload_n hx hb dX6_measureColours_93 rfl (lv_at hl 5 rfl) ?_
      refine va_get (D := D) (ci := 6) (v := va_re ad (y53.2 a 6)) (C := RX6) (T := TX6) (N := 14) hx hb hts (by decide +kernel) hown hK hP a (wld_o ct ad G y53 hc hk (by decide)) rfl 6 (by decide) (hts (.fieldLink RX6 30 "VideoSuite$Samples" "rest" "[I") (by decide +kernel)) (fun _ h9 => h9) rfl dX6_measureColours_94 ?_
      refine lv_iconst (v := (0 : Int32)) hx hb dX6_measureColours_97 (by decide) ?_
      obtain ⟨b54, ho54, hc54, hk54, hF⟩ := dr_some hF
      refine W_st (st' := [.int (0 : Int32), .ref (ad b54), .int s7.2.1, va_re ad (y53.2 a 7)]) (by rw [va_some ho54]) ?_
      obtain ⟨hvc, hF⟩ := chk_some hF
      refine va_iald hx hb hK hP b54 1 (wld_i ct ad G y53 hc54 hk54) rfl hvc dX6_measureColours_98 ?_
      obtain ⟨x55, ex55, hF⟩ := ltt_some hF
      refine lv_topi (fun zx55 ezx55 => ?_)
      obtain rfl : x55 = zx55 := ex55.trans ezx55.symm
      obtain ⟨b56, ho56, hc56, hk56, hF⟩ := dr_some hF
      refine W_st (st' := [.int x55, .int s7.2.1, .ref (ad b56)]) (by rw [va_some ho56]) ?_
      obtain ⟨hvc, hF⟩ := chk_some hF
      refine va_iast hx hb hK hP hD hS b56 1 (wld_i ct ad G y53 hc56 hk56) rfl hvc dX6_measureColours_99 (fun H locs hP hD hS => ?_)
      obtain ⟨M57, eM57, hF⟩ := ltt_some hF
      rw [set_i ct ad G y53 hc56 hk56, ← eM57] at hP hD
      refine lv_aload_n hx hb dX6_measureColours_100 rfl (lv_at hl 5 rfl) ?_
      refine lv_aloadq_n hx hb dX6_measureColours_101 rfl (lv_at hl 6 rfl) ?_
      refine W_st (st' := [.ref (ad b43), .ref (ad a)]) (by rw [va_some ho43]) ?_
      refine va_get (D := D) (ci := 9) (v := va_re ad (M57.2 b43 9)) (C := RX9) (T := TX9) (N := 20) hx hb hts (by decide +kernel) hown hK hP b43 (wld_o ct ad G M57 hc43 hk43 (by decide)) rfl 9 (by decide) (hts (.fieldLink RX6 234 "VideoSuite$Work" "level" "[I") (by decide +kernel)) (fun _ h9 => h9) rfl dX6_measureColours_102 ?_
      refine lv_iload_n hx hb dX6_measureColours_105 rfl (lv_at hl 8 rfl) ?_
      refine lv_bipush (v := (15 : Int32)) hx hb dX6_measureColours_106 (by decide) ?_
      refine lv_iconst (v := (4 : Int32)) hx hb dX6_measureColours_108 (by decide) ?_
      refine lv_iload hx hb dX6_measureColours_109 (lv_at hl 3 rfl) ?_
      refine lv_imul hx hb dX6_measureColours_111 ?_
      obtain ⟨x58, ex58, hF⟩ := ltt_some hF
      refine lv_topi (fun zx58 ezx58 => ?_)
      obtain rfl : x58 = zx58 := ex58.trans ezx58.symm
      refine lv_iadd hx hb dX6_measureColours_112 ?_
      obtain ⟨x59, ex59, hF⟩ := ltt_some hF
      refine lv_topi (fun zx59 ezx59 => ?_)
      obtain rfl : x59 = zx59 := ex59.trans ezx59.symm
      refine lv_iload hx hb dX6_measureColours_113 (lv_at hl 2 rfl) ?_
      refine lv_iadd hx hb dX6_measureColours_115 ?_
      obtain ⟨x60, ex60, hF⟩ := ltt_some hF
      refine lv_topi (fun zx60 ezx60 => ?_)
      obtain rfl : x60 = zx60 := ex60.trans ezx60.symm
      obtain ⟨y61, hy61, hF⟩ := bnd_some hF
      have hf9 := wA_in hD hA9 hS
      refine va_calli (va_runS (As := [.int p2, .int x60]) (rest := [va_re ad (M57.2 b43 9), .ref (ad a)]) ⟨hx, hb, hml, hown, hts⟩ (kX9_levelAt l D ct ad Z G M57 H.size p2 x60 y61 hy61) (va_cwS 2 hts gX6_measureColours_X9_levelAt rfl rfl rfl (by decide +kernel) ⟨Nat.le_of_ble_eq_true rfl, Nat.le_of_ble_eq_true rfl⟩) ⟨fun a U g mk q => by obtain ⟨q0, q1, qP, qK, qD, qZ, qN⟩ := q; exact ⟨q0, q1, qP, va_K.moved (u := U) (U := U.calling g mk a) (Vm.Alike.refl U.vm) qK, qD, sF.moved (u := U) (U := U.calling g mk a) (Vm.Alike.refl U.vm) qZ, nF.same rfl qN⟩, fun U hU hW => ⟨rfl, by rw [hU], by rw [hU]; exact hP, va_K.moved hW.alike hK, hD.weaken (fun _ _ _ _ => trivial), by rw [hU]; exact ((hZ.kept hS.2.1).narrow hf9).moved hW.alike, hN.warm hW⟩⟩ rfl rfl hl.1 rfl (lv_room (by simp only [List.map, va_re_cat]; exact Nat.le_of_ble_eq_true rfl)) dX6_measureColours_116 ⟨(Nat.zero_le _), (Nat.zero_le _)⟩) hS (fun q _ h => hf9 q h) hf9 (fun r u t H locs ht hvm hw hB hz1 hk1 hS => ?_)
      obtain ⟨hP, hK9, hD9⟩ := hB
      rw [ht] at hP
      try dsimp only at hw
      subst hw
      have hD := hD9.weaken (fun _ q _ h => hf9 q.1 h)
      refine lv_iconst (v := (1 : Int32)) hx hb dX6_measureColours_119 (by decide) ?_
      refine lv_iload hx hb dX6_measureColours_120 (lv_at hl 9 rfl) ?_
      refine lv_iload hx hb dX6_measureColours_122 (lv_at hl 10 rfl) ?_
      obtain ⟨y62, hy62, hF⟩ := bnd_some hF
      have hf9 := wA_in hD hA9 hS
      refine va_calli (va_runV (As := [va_re ad (M57.2 b43 9), .int y61.2, .int (1 : Int32), .int p3, .int p4]) (rest := []) ⟨hx, hb, hml, hown, hts⟩ (kX6_measure l D ct ad Z G y61.1 H.size a ((M57.2 b43 9)) y61.2 ((1 : Int32)) p3 p4 y62 hc hk hy62) (cwV 5 hts gX6_measureColours_X6_measure rfl rfl rfl (by decide +kernel) ⟨Nat.le_of_ble_eq_true rfl, Nat.le_of_ble_eq_true rfl⟩) ⟨fun a U g mk q => by obtain ⟨q0, q1, qP, qK, qD, qZ, qN⟩ := q; exact ⟨q0, q1, qP, va_K.moved (u := U) (U := U.calling g mk a) (Vm.Alike.refl U.vm) qK, qD, sF.moved (u := U) (U := U.calling g mk a) (Vm.Alike.refl U.vm) qZ, nF.same rfl qN⟩, va_recv hK hP (ci := 6) (q0 := a) rfl (wld_o ct ad G y61.1 hc hk (by decide)), fun U hU hW => ⟨rfl, by rw [hU], by rw [hU]; exact hP, va_K.moved hW.alike hK, hD.weaken (fun _ _ _ _ => trivial), by rw [hU]; exact ((hZ.kept hS.2.1).narrow hf9).moved hW.alike, hN.warm hW⟩⟩ rfl rfl hl.1 rfl (lv_room (Nat.le_of_ble_eq_true rfl)) dX6_measureColours_124 ⟨(Nat.zero_le _), (Nat.zero_le _)⟩) hS (fun q _ h => hf9 q h) hf9 (fun r u t H locs ht hvm hw hB hz1 hk1 hS => ?_)
      obtain ⟨hP, hK9, hD9⟩ := hB
      rw [ht] at hP
      try dsimp only at hw
      subst hw
      have hD := hD9.weaken (fun _ q _ h => hf9 q.1 h)
      refine lv_istore (lv' := [(11, .int y62.2), (10, .int x41), (9, .int x39), (8, .int s7.2.1), (7, .int s2.2.1), (6, .int s7.1), (0, .ref (ad a)), (1, va_re ad p0), (2, va_re ad p1), (3, .int p2), (4, .int p3), (5, .int p4)]) hx hb dX6_measureColours_127 hl (by decide) rfl (fun ls hl => ?_)
      refine lv_aloadq_n hx hb dX6_measureColours_129 rfl (lv_at hl 7 rfl) ?_
      refine W_st (st' := [.ref (ad b43)]) (by rw [va_some ho43]) ?_
      refine va_get (D := D) (ci := 9) (v := va_re ad (y62.1.2 b43 8)) (C := RX9) (T := TX9) (N := 20) hx hb hts (by decide +kernel) hown hK hP b43 (wld_o ct ad G y62.1 hc43 hk43 (by decide)) rfl 8 (by decide) (hts (.fieldLink RX6 277 "VideoSuite$Work" "total" "[I") (by decide +kernel)) (fun _ h9 => h9) rfl dX6_measureColours_130 ?_
      refine lv_bipush (v := (24 : Int32)) hx hb dX6_measureColours_133 (by decide) ?_
      refine lv_iload_n hx hb dX6_measureColours_135 rfl (lv_at hl 9 rfl) ?_
      refine lv_imul hx hb dX6_measureColours_136 ?_
      obtain ⟨x63, ex63, hF⟩ := ltt_some hF
      refine lv_topi (fun zx63 ezx63 => ?_)
      obtain rfl : x63 = zx63 := ex63.trans ezx63.symm
      refine lv_bipush (v := (12 : Int32)) hx hb dX6_measureColours_137 (by decide) ?_
      refine lv_iadd hx hb dX6_measureColours_139 ?_
      obtain ⟨x64, ex64, hF⟩ := ltt_some hF
      refine lv_topi (fun zx64 ezx64 => ?_)
      obtain rfl : x64 = zx64 := ex64.trans ezx64.symm
      refine lv_iconst (v := (4 : Int32)) hx hb dX6_measureColours_140 (by decide) ?_
      refine lv_iload hx hb dX6_measureColours_141 (lv_at hl 4 rfl) ?_
      refine lv_imul hx hb dX6_measureColours_143 ?_
      obtain ⟨x65, ex65, hF⟩ := ltt_some hF
      refine lv_topi (fun zx65 ezx65 => ?_)
      obtain rfl : x65 = zx65 := ex65.trans ezx65.symm
      refine lv_iadd hx hb dX6_measureColours_144 ?_
      obtain ⟨x66, ex66, hF⟩ := ltt_some hF
      refine lv_topi (fun zx66 ezx66 => ?_)
      obtain rfl : x66 = zx66 := ex66.trans ezx66.symm
      refine lv_iload hx hb dX6_measureColours_145 (lv_at hl 3 rfl) ?_
      refine lv_iadd hx hb dX6_measureColours_147 ?_
      obtain ⟨x67, ex67, hF⟩ := ltt_some hF
      refine lv_topi (fun zx67 ezx67 => ?_)
      obtain rfl : x67 = zx67 := ex67.trans ezx67.symm
      refine lv_iload hx hb dX6_measureColours_148 (lv_at hl 0 rfl) ?_
      obtain ⟨b68, ho68, hc68, hk68, hF⟩ := dr_some hF
      refine W_st (st' := [.int y62.2, .int x67, .ref (ad b68)]) (by rw [va_some ho68]) ?_
      obtain ⟨hvc, hF⟩ := chk_some hF
      refine va_iast hx hb hK hP hD hS b68 1 (wld_i ct ad G y62.1 hc68 hk68) rfl hvc dX6_measureColours_150 (fun H locs hP hD hS => ?_)
      obtain ⟨M69, eM69, hF⟩ := ltt_some hF
      rw [set_i ct ad G y62.1 hc68 hk68, ← eM69] at hP hD
      refine lv_iload hx hb dX6_measureColours_151 (lv_at hl 0 rfl) ?_
      obtain ⟨y70, hy70, hF⟩ := bnd_some hF
      have J70 : ∀ (H : Heap) (locs : List Loc) (ls : Array Slot), va_P D classes (wld ct ad G M69) H → va_D A (wld ct ad G M69) → va_S A s.heap H locs → lv_has ls 12 [(11, .int y62.2), (10, .int x41), (9, .int x39), (8, .int s7.2.1), (7, .int s2.2.1), (6, .int s7.1), (0, .ref (ad a)), (1, va_re ad p0), (2, va_re ad p1), (3, .int p2), (4, .int p3), (5, .int p4)] → W p l e (headSpec wsX6_measureColours ({ frames := 2, cells := 0, slots := 0, locals := 54 })).room s m ([.ref (ad a), va_re ad p0, va_re ad p1, .int p2, .int p3, .int p4] : List Value).toArray below meth c H locs 0 0 (MQ below (va_Qi (fun (q : Int32) (_ : Unit) => q = y.2) (fun _ t => kE D ct ad G A y.1 t) A) ([.ref (ad a), va_re ad p0, va_re ad p1, .int p2, .int p3, .int p4] : List Value).toArray s 0 0 A) (F0 m 162 ls [.int y70]) := by
        intro H locs ls hP hD hS hl
        refine lv_istore (lv' := [(6, .int y70), (11, .int y62.2), (10, .int x41), (9, .int x39), (8, .int s7.2.1), (7, .int s2.2.1), (0, .ref (ad a)), (1, va_re ad p0), (2, va_re ad p1), (3, .int p2), (4, .int p3), (5, .int p4)]) hx hb dX6_measureColours_162 hl (by decide) rfl (fun ls hl => ?_)
        obtain ⟨x71, ex71, hF⟩ := ltt_some hF
        refine lv_iinc (v := x71) (lv' := [(8, .int x71), (6, .int y70), (11, .int y62.2), (10, .int x41), (9, .int x39), (7, .int s2.2.1), (0, .ref (ad a)), (1, va_re ad p0), (2, va_re ad p1), (3, .int p2), (4, .int p3), (5, .int p4)]) hx hb dX6_measureColours_164 hl (k := 4) rfl (by rw [ex71]; rfl) (by decide) rfl (fun ls hl => ?_)
        refine lv_goto (tgt := 15) hx hb dX6_measureColours_167 (by decide) ?_
        obtain rfl := Option.some.inj hF
        exact hwz36 _ _ _ hP hD hS (lv_sub hl [0, 5, 1, 6, 7, 8, 9, 10, 11] rfl)
      clear hF
      have hF := hy70
      clear hy70
      refine lv_if_le (tgt := 160) hx hb dX6_measureColours_153 (by decide) (fun c72 => ?_) (fun c72 => ?_)
      · rw [if_pos c72] at hF
        refine lv_iload hx hb dX6_measureColours_160 (lv_at hl 5 rfl) ?_
        obtain rfl := Option.some.inj hF
        exact J70 _ _ _ hP hD hS (lv_sub hl [0, 1, 2, 3, 4, 5, 6, 7, 8, 9, 10, 11] rfl)
      · rw [if_neg c72] at hF
        refine lv_iconst (v := (2 : Int32)) hx hb dX6_measureColours_156 (by decide) ?_
        refine lv_goto (tgt := 162) hx hb dX6_measureColours_157 (by decide) ?_
        obtain rfl := Option.some.inj hF
        exact J70 _ _ _ hP hD hS (lv_sub hl [0, 1, 2, 3, 4, 5, 6, 7, 8, 9, 10, 11] rfl)
theorem ggX6_measureLuma_X9_pieceX : GoodIn wsX6_measureLuma wsX9_pieceX := goodIn_r _ [8] (by decide +kernel) (by decide +kernel)
set_option maxRecDepth 20000 in
theorem gX6_measureLuma_X9_pieceX : GoodIn wsX6_measureLuma (va_wsS RX6 76 yX9_pieceX wsX9_pieceX) := goodIn_app (goodIn_of _ (by decide +kernel)) ggX6_measureLuma_X9_pieceX
set_option maxRecDepth 20000 in
theorem ggX6_measureLuma_X9_pieceY : GoodIn wsX6_measureLuma wsX9_pieceY := goodIn_r _ [11] (by decide +kernel) (by decide +kernel)
set_option maxRecDepth 20000 in
theorem gX6_measureLuma_X9_pieceY : GoodIn wsX6_measureLuma (va_wsS RX6 80 yX9_pieceY wsX9_pieceY) := goodIn_app (goodIn_of _ (by decide +kernel)) ggX6_measureLuma_X9_pieceY
set_option maxRecDepth 20000 in
theorem ggX6_measureLuma_X6_lumaAt : GoodIn wsX6_measureLuma wsX6_lumaAt := goodIn_r _ [15, 2, 61, 62, 63, 64, 65, 66, 67, 68, 69, 70, 71, 72, 73, 74, 75, 76, 77, 78] (by decide +kernel) (by decide +kernel)
set_option maxRecDepth 20000 in
theorem gX6_measureLuma_X6_lumaAt : GoodIn wsX6_measureLuma (va_wsS RX6 175 yX6_lumaAt wsX6_lumaAt) := goodIn_app (goodIn_of _ (by decide +kernel)) ggX6_measureLuma_X6_lumaAt
set_option maxRecDepth 20000 in
theorem ggX6_measureLuma_X6_turn : GoodIn wsX6_measureLuma wsX6_turn := goodIn_r _ [19, 20, 21, 79, 80, 81, 82, 83, 84, 85, 86, 87, 88, 89, 90, 91, 92] (by decide +kernel) (by decide +kernel)
set_option maxRecDepth 20000 in
theorem gX6_measureLuma_X6_turn : GoodIn wsX6_measureLuma (wsV RX6 270 RX6 yX6_turn wsX6_turn) := goodIn_app (goodIn_of _ (by decide +kernel)) ggX6_measureLuma_X6_turn
set_option maxRecDepth 20000 in
theorem ggX6_measureLuma_X9_levelAt : GoodIn wsX6_measureLuma wsX9_levelAt := goodIn_r _ [24] (by decide +kernel) (by decide +kernel)
set_option maxRecDepth 20000 in
theorem gX6_measureLuma_X9_levelAt : GoodIn wsX6_measureLuma (va_wsS RX6 237 yX9_levelAt wsX9_levelAt) := goodIn_app (goodIn_of _ (by decide +kernel)) ggX6_measureLuma_X9_levelAt
set_option maxRecDepth 20000 in
theorem ggX6_measureLuma_X6_measure : GoodIn wsX6_measureLuma wsX6_measure := goodIn_r _ [28, 29, 30, 20, 31, 32, 33, 14, 34, 35, 36, 37, 38, 39, 40, 79, 80, 81, 82, 83, 84, 85, 86, 87, 88, 89, 90, 91, 92] (by decide +kernel) (by decide +kernel)
set_option maxRecDepth 20000 in
theorem gX6_measureLuma_X6_measure : GoodIn wsX6_measureLuma (wsV RX6 273 RX6 yX6_measure wsX6_measure) := goodIn_app (goodIn_of _ (by decide +kernel)) ggX6_measureLuma_X6_measure
theorem dX6_measureLuma_0 : decode cX6_measureLuma 0 = .ok (.iload 4, 2) := by decide +kernel
theorem dX6_measureLuma_2 : decode cX6_measureLuma 2 = .ok (.invokestatic 76, 3) := by decide +kernel
theorem dX6_measureLuma_5 : decode cX6_measureLuma 5 = .ok (.istore 7, 2) := by decide +kernel
theorem dX6_measureLuma_7 : decode cX6_measureLuma 7 = .ok (.iload 4, 2) := by decide +kernel
theorem dX6_measureLuma_9 : decode cX6_measureLuma 9 = .ok (.invokestatic 80, 3) := by decide +kernel
theorem dX6_measureLuma_12 : decode cX6_measureLuma 12 = .ok (.istore 8, 2) := by decide +kernel
theorem dX6_measureLuma_14 : decode cX6_measureLuma 14 = .ok (.aload_n 0, 1) := by decide +kernel
theorem dX6_measureLuma_15 : decode cX6_measureLuma 15 = .ok (.aload_n 2, 1) := by decide +kernel
theorem dX6_measureLuma_16 : decode cX6_measureLuma 16 = .ok (.aload_n 1, 1) := by decide +kernel
theorem dX6_measureLuma_17 : decode cX6_measureLuma 17 = .ok (.getfield 46, 3) := by decide +kernel
theorem dX6_measureLuma_20 : decode cX6_measureLuma 20 = .ok (.iload_n 3, 1) := by decide +kernel
theorem dX6_measureLuma_21 : decode cX6_measureLuma 21 = .ok (.iload 7, 2) := by decide +kernel
theorem dX6_measureLuma_23 : decode cX6_measureLuma 23 = .ok (.iload 8, 2) := by decide +kernel
theorem dX6_measureLuma_25 : decode cX6_measureLuma 25 = .ok (.invokestatic 175, 3) := by decide +kernel
theorem dX6_measureLuma_28 : decode cX6_measureLuma 28 = .ok (.bipush 16, 2) := by decide +kernel
theorem dX6_measureLuma_30 : decode cX6_measureLuma 30 = .ok (.aload_n 1, 1) := by decide +kernel
theorem dX6_measureLuma_31 : decode cX6_measureLuma 31 = .ok (.getfield 46, 3) := by decide +kernel
theorem dX6_measureLuma_34 : decode cX6_measureLuma 34 = .ok (.getfield 83, 3) := by decide +kernel
theorem dX6_measureLuma_37 : decode cX6_measureLuma 37 = .ok (.imul, 1) := by decide +kernel
theorem dX6_measureLuma_38 : decode cX6_measureLuma 38 = .ok (.bipush 16, 2) := by decide +kernel
theorem dX6_measureLuma_40 : decode cX6_measureLuma 40 = .ok (.iload 8, 2) := by decide +kernel
theorem dX6_measureLuma_42 : decode cX6_measureLuma 42 = .ok (.imul, 1) := by decide +kernel
theorem dX6_measureLuma_43 : decode cX6_measureLuma 43 = .ok (.iload 7, 2) := by decide +kernel
theorem dX6_measureLuma_45 : decode cX6_measureLuma 45 = .ok (.iadd, 1) := by decide +kernel
theorem dX6_measureLuma_46 : decode cX6_measureLuma 46 = .ok (.bipush 16, 2) := by decide +kernel
theorem dX6_measureLuma_48 : decode cX6_measureLuma 48 = .ok (.invokevirtual 270, 3) := by decide +kernel
theorem dX6_measureLuma_51 : decode cX6_measureLuma 51 = .ok (.aload_n 0, 1) := by decide +kernel
theorem dX6_measureLuma_52 : decode cX6_measureLuma 52 = .ok (.aload_n 1, 1) := by decide +kernel
theorem dX6_measureLuma_53 : decode cX6_measureLuma 53 = .ok (.getfield 234, 3) := by decide +kernel
theorem dX6_measureLuma_56 : decode cX6_measureLuma 56 = .ok (.iload_n 3, 1) := by decide +kernel
theorem dX6_measureLuma_57 : decode cX6_measureLuma 57 = .ok (.iload 4, 2) := by decide +kernel
theorem dX6_measureLuma_59 : decode cX6_measureLuma 59 = .ok (.invokestatic 237, 3) := by decide +kernel
theorem dX6_measureLuma_62 : decode cX6_measureLuma 62 = .ok (.iconst 0, 1) := by decide +kernel
theorem dX6_measureLuma_63 : decode cX6_measureLuma 63 = .ok (.iload 5, 2) := by decide +kernel
theorem dX6_measureLuma_65 : decode cX6_measureLuma 65 = .ok (.iload 6, 2) := by decide +kernel
theorem dX6_measureLuma_67 : decode cX6_measureLuma 67 = .ok (.invokevirtual 273, 3) := by decide +kernel
theorem dX6_measureLuma_70 : decode cX6_measureLuma 70 = .ok (.istore 9, 2) := by decide +kernel
theorem dX6_measureLuma_72 : decode cX6_measureLuma 72 = .ok (.aload_n 1, 1) := by decide +kernel
theorem dX6_measureLuma_73 : decode cX6_measureLuma 73 = .ok (.getfield 277, 3) := by decide +kernel
theorem dX6_measureLuma_76 : decode cX6_measureLuma 76 = .ok (.bipush 24, 2) := by decide +kernel
theorem dX6_measureLuma_78 : decode cX6_measureLuma 78 = .ok (.iload_n 3, 1) := by decide +kernel
theorem dX6_measureLuma_79 : decode cX6_measureLuma 79 = .ok (.imul, 1) := by decide +kernel
theorem dX6_measureLuma_80 : decode cX6_measureLuma 80 = .ok (.iload 4, 2) := by decide +kernel
theorem dX6_measureLuma_82 : decode cX6_measureLuma 82 = .ok (.iadd, 1) := by decide +kernel
theorem dX6_measureLuma_83 : decode cX6_measureLuma 83 = .ok (.iload 9, 2) := by decide +kernel
theorem dX6_measureLuma_85 : decode cX6_measureLuma 85 = .ok (.iastore, 1) := by decide +kernel
theorem dX6_measureLuma_86 : decode cX6_measureLuma 86 = .ok (.iload 9, 2) := by decide +kernel
theorem dX6_measureLuma_88 : decode cX6_measureLuma 88 = .ok (.ireturn, 1) := by decide +kernel
def FX6_measureLuma (G : GG) (M : DD) (a : Nat) (p0 : Option Nat) (p1 : Option Nat) (p2 : Int32) (p3 : Int32) (p4 : Int32) (p5 : Int32) : Option (DD × Int32) :=
  bnd (FX9_pieceX G M p3) fun y1 =>
  bnd (FX9_pieceY G y1.1 p3) fun y2 =>
  dr G 9 p0 fun b3 =>
  bnd (FX6_lumaAt G y2.1 ((y2.1.2 b3 0)) p2 y1.2 y2.2) fun y4 =>
  dr G 4 ((y4.1.2 b3 0)) fun b5 =>
  ltt (y4.1.1 b5 1) fun x6 =>
  ltt ((((16 : Int32)) * x6)) fun x7 =>
  ltt ((((16 : Int32)) * y2.2)) fun x8 =>
  ltt ((x8 + y1.2)) fun x9 =>
  bnd (FX6_turn G y4.1 a p1 y4.2 x7 x9 ((16 : Int32))) fun y10 =>
  bnd (FX9_levelAt G y10 p2 p3) fun y11 =>
  bnd (FX6_measure G y11.1 a ((y10.2 b3 9)) y11.2 ((0 : Int32)) p4 p5) fun y12 =>
  ltt ((((24 : Int32)) * p2)) fun x13 =>
  ltt ((x13 + p3)) fun x14 =>
  dr G 13 ((y12.1.2 b3 8)) fun b15 =>
  chk (¬ (x14 < 0 ∨ G.2.2 b15 ≤ x14.toNatClampNeg)) <|
  ltt (uI y12.1 b15 x14.toNatClampNeg y12.2) fun M16 =>
  some (M16, y12.2)
set_option maxHeartbeats 4000000 in
set_option maxRecDepth 100000 in
theorem kX6_measureLuma (l : Launch) (D : va_G) (ct : CT) (ad : Nat → Nat) (Z : Nat → Nat) (G : GG) (M : DD) (sz : Nat) (a : Nat) (p0 : Option Nat) (p1 : Option Nat) (p2 : Int32) (p3 : Int32) (p4 : Int32) (p5 : Int32) (y : DD × Int32) (hc : a < G.1) (hk : G.2.1 a = 6) (hF : FX6_measureLuma G M a p0 p1 p2 p3 p4 p5 = some y) : Met l yX6_measureLuma wsX6_measureLuma ({ frames := 2, cells := 0, slots := 0, locals := 54 }) (va_Pc [.ref (ad a), va_re ad p0, va_re ad p1, .int p2, .int p3, .int p4, .int p5] (kB D ct ad Z G M sz)) (va_Qi (fun (q : Int32) (_ : Unit) => q = y.2) (fun _ t => kE D ct ad G (wA ad G sz) y.1 t) (wA ad G sz)) 0 0 (wA ad G sz) := by
  refine Met.ofW (cc := cX6_measureLuma) (maxL := 10) (ret := (some .int)) (by decide) rfl ?_
  intro p e s m args below meth c s₁ B hml hv
  obtain ⟨rfl, hsz, hP, hK, hD0, hZ, hN⟩ := hv
  have hx := B.exec
  have hb := B.bytes
  have hr := B.returns
  have hts := atoms_spec (ws := wsX6_measureLuma) B.pre
  have hown : s.vm.findClass RX6 = some m.cls := findClass_of_methodNamed B.named
  have hlocks := B.notSynchronized
  subst hsz
  have hD := wD_self (sz := s.heap.size) hD0
  have hA9 : ∀ q, s.heap.size ≤ q → wA ad G s.heap.size q := fun q h => Or.inr h
  generalize hAe : wA ad G s.heap.size = A at hD hA9 hZ ⊢
  have hS : va_S A s.heap s.heap [] := va_S.rf
  have hl := lv_entry ([.ref (ad a), va_re ad p0, va_re ad p1, .int p2, .int p3, .int p4, .int p5]) (n := 10) (by cases p0 <;> cases p1 <;> exact Nat.le_of_ble_eq_true rfl)
  rw [lg_entry_eq]
  generalize (lg_sl ([.ref (ad a), va_re ad p0, va_re ad p1, .int p2, .int p3, .int p4, .int p5]) ++ List.replicate (10 - (lg_sl ([.ref (ad a), va_re ad p0, va_re ad p1, .int p2, .int p3, .int p4, .int p5])).length) Slot.unset).toArray = ls at hl ⊢
  have hl : lv_has ls 10 [(0, .ref (ad a)), (1, va_re ad p0), (2, va_re ad p1), (3, .int p2), (4, .int p3), (5, .int p4), (6, .int p5)] := by have e9 : lv_args 0 [.ref (ad a), va_re ad p0, va_re ad p1, .int p2, .int p3, .int p4, .int p5] = [(0, .ref (ad a)), (1, va_re ad p0), (2, va_re ad p1), (3, .int p2), (4, .int p3), (5, .int p4), (6, .int p5)] := (by cases p0 <;> cases p1 <;> rfl); rw [e9] at hl; exact hl
  unfold FX6_measureLuma at hF
  refine lv_iload hx hb dX6_measureLuma_0 (lv_at hl 4 rfl) ?_
  obtain ⟨y1, hy1, hF⟩ := bnd_some hF
  have hf9 := wA_in hD hA9 hS
  refine va_calli (va_runS (As := [.int p3]) (rest := []) ⟨hx, hb, hml, hown, hts⟩ (kX9_pieceX l D ct ad Z G M s.heap.size p3 y1 hy1) (va_cwS 1 hts gX6_measureLuma_X9_pieceX rfl rfl rfl (by decide +kernel) ⟨Nat.le_of_ble_eq_true rfl, Nat.le_of_ble_eq_true rfl⟩) ⟨fun a U g mk q => by obtain ⟨q0, q1, qP, qK, qD, qZ, qN⟩ := q; exact ⟨q0, q1, qP, va_K.moved (u := U) (U := U.calling g mk a) (Vm.Alike.refl U.vm) qK, qD, sF.moved (u := U) (U := U.calling g mk a) (Vm.Alike.refl U.vm) qZ, nF.same rfl qN⟩, fun U hU hW => ⟨rfl, by rw [hU], by rw [hU]; exact hP, va_K.moved hW.alike hK, hD.weaken (fun _ _ _ _ => trivial), by rw [hU]; exact ((hZ.kept hS.2.1).narrow hf9).moved hW.alike, hN.warm hW⟩⟩ rfl rfl hl.1 rfl (lv_room (Nat.le_of_ble_eq_true rfl)) dX6_measureLuma_2 ⟨(Nat.zero_le _), (Nat.zero_le _)⟩) hS (fun q _ h => hf9 q h) hf9 (fun r u t H locs ht hvm hw hB hz1 hk1 hS => ?_)
  obtain ⟨hP, hK9, hD9⟩ := hB
  rw [ht] at hP
  try dsimp only at hw
  subst hw
  have hD := hD9.weaken (fun _ q _ h => hf9 q.1 h)
  refine lv_istore (lv' := [(7, .int y1.2), (0, .ref (ad a)), (1, va_re ad p0), (2, va_re ad p1), (3, .int p2), (4, .int p3), (5, .int p4), (6, .int p5)]) hx hb dX6_measureLuma_5 hl (by decide) rfl (fun ls hl => ?_)
  refine lv_iload hx hb dX6_measureLuma_7 (lv_at hl 5 rfl) ?_
  obtain ⟨y2, hy2, hF⟩ := bnd_some hF
  have hf9 := wA_in hD hA9 hS
  refine va_calli (va_runS (As := [.int p3]) (rest := []) ⟨hx, hb, hml, hown, hts⟩ (kX9_pieceY l D ct ad Z G y1.1 H.size p3 y2 hy2) (va_cwS 1 hts gX6_measureLuma_X9_pieceY rfl rfl rfl (by decide +kernel) ⟨Nat.le_of_ble_eq_true rfl, Nat.le_of_ble_eq_true rfl⟩) ⟨fun a U g mk q => by obtain ⟨q0, q1, qP, qK, qD, qZ, qN⟩ := q; exact ⟨q0, q1, qP, va_K.moved (u := U) (U := U.calling g mk a) (Vm.Alike.refl U.vm) qK, qD, sF.moved (u := U) (U := U.calling g mk a) (Vm.Alike.refl U.vm) qZ, nF.same rfl qN⟩, fun U hU hW => ⟨rfl, by rw [hU], by rw [hU]; exact hP, va_K.moved hW.alike hK, hD.weaken (fun _ _ _ _ => trivial), by rw [hU]; exact ((hZ.kept hS.2.1).narrow hf9).moved hW.alike, hN.warm hW⟩⟩ rfl rfl hl.1 rfl (lv_room (Nat.le_of_ble_eq_true rfl)) dX6_measureLuma_9 ⟨(Nat.zero_le _), (Nat.zero_le _)⟩) hS (fun q _ h => hf9 q h) hf9 (fun r u t H locs ht hvm hw hB hz1 hk1 hS => ?_)
  obtain ⟨hP, hK9, hD9⟩ := hB
  rw [ht] at hP
  try dsimp only at hw
  subst hw
  have hD := hD9.weaken (fun _ q _ h => hf9 q.1 h)
  refine lv_istore (lv' := [(8, .int y2.2), (7, .int y1.2), (0, .ref (ad a)), (1, va_re ad p0), (2, va_re ad p1), (3, .int p2), (4, .int p3), (5, .int p4), (6, .int p5)]) hx hb dX6_measureLuma_12 hl (by decide) rfl (fun ls hl => ?_)
  refine lv_aload_n hx hb dX6_measureLuma_14 rfl (lv_at hl 2 rfl) ?_
  refine lv_aloadq_n hx hb dX6_measureLuma_15 rfl (lv_at hl 4 rfl) ?_
  refine lv_aloadq_n hx hb dX6_measureLuma_16 rfl (lv_at hl 3 rfl) ?_
  obtain ⟨b3, ho3, hc3, hk3, hF⟩ := dr_some hF
  refine W_st (st' := [.ref (ad b3), va_re ad p1, .ref (ad a)]) (by rw [va_some ho3]) ?_
  refine va_get (D := D) (ci := 9) (v := va_re ad (y2.1.2 b3 0)) (C := RX9) (T := TX9) (N := 20) hx hb hts (by decide +kernel) hown hK hP b3 (wld_o ct ad G y2.1 hc3 hk3 (by decide)) rfl 0 (by decide) (hts (.fieldLink RX6 46 "VideoSuite$Work" "pic" "LVideoSuite$Picture;") (by decide +kernel)) (fun _ h9 => h9) rfl dX6_measureLuma_17 ?_
  refine lv_iload_n hx hb dX6_measureLuma_20 rfl (lv_at hl 5 rfl) ?_
  refine lv_iload hx hb dX6_measureLuma_21 (lv_at hl 1 rfl) ?_
  refine lv_iload hx hb dX6_measureLuma_23 (lv_at hl 0 rfl) ?_
  obtain ⟨y4, hy4, hF⟩ := bnd_some hF
  have hf9 := wA_in hD hA9 hS
  refine va_calli (va_runS (As := [va_re ad (y2.1.2 b3 0), .int p2, .int y1.2, .int y2.2]) (rest := [va_re ad p1, .ref (ad a)]) ⟨hx, hb, hml, hown, hts⟩ (kX6_lumaAt l D ct ad Z G y2.1 H.size ((y2.1.2 b3 0)) p2 y1.2 y2.2 y4 hy4) (va_cwS 4 hts gX6_measureLuma_X6_lumaAt rfl rfl rfl (by decide +kernel) ⟨Nat.le_of_ble_eq_true rfl, Nat.le_of_ble_eq_true rfl⟩) ⟨fun a U g mk q => by obtain ⟨q0, q1, qP, qK, qD, qZ, qN⟩ := q; exact ⟨q0, q1, qP, va_K.moved (u := U) (U := U.calling g mk a) (Vm.Alike.refl U.vm) qK, qD, sF.moved (u := U) (U := U.calling g mk a) (Vm.Alike.refl U.vm) qZ, nF.same rfl qN⟩, fun U hU hW => ⟨rfl, by rw [hU], by rw [hU]; exact hP, va_K.moved hW.alike hK, hD.weaken (fun _ _ _ _ => trivial), by rw [hU]; exact ((hZ.kept hS.2.1).narrow hf9).moved hW.alike, hN.warm hW⟩⟩ rfl rfl hl.1 rfl (lv_room (by simp only [List.map, va_re_cat]; exact Nat.le_of_ble_eq_true rfl)) dX6_measureLuma_25 ⟨(Nat.zero_le _), (Nat.zero_le _)⟩) hS (fun q _ h => hf9 q h) hf9 (fun r u t H locs ht hvm hw hB hz1 hk1 hS => ?_)
  obtain ⟨hP, hK9, hD9⟩ := hB
  rw [ht] at hP
  try dsimp only at hw
  subst hw
  have hD := hD9.weaken (fun _ q _ h => hf9 q.1 h)
  refine lv_bipush (v := (16 : Int32)) hx hb dX6_measureLuma_28 (by decide) ?_
  refine lv_aloadq_n hx hb dX6_measureLuma_30 rfl (lv_at hl 3 rfl) ?_
  refine W_st (st' := [.ref (ad b3), .int (16 : Int32), .int y4.2, va_re ad p1, .ref (ad a)]) (by rw [va_some ho3]) ?_
  refine va_get (D := D) (ci := 9) (v := va_re ad (y4.1.2 b3 0)) (C := RX9) (T := TX9) (N := 20) hx hb hts (by decide +kernel) hown hK hP b3 (wld_o ct ad G y4.1 hc3 hk3 (by decide)) rfl 0 (by decide) (hts (.fieldLink RX6 46 "VideoSuite$Work" "pic" "LVideoSuite$Picture;") (by decide +kernel)) (fun _ h9 => h9) rfl dX6_measureLuma_31 ?_
  obtain ⟨b5, ho5, hc5, hk5, hF⟩ := dr_some hF
  refine W_st (st' := [.ref (ad b5), .int (16 : Int32), .int y4.2, va_re ad p1, .ref (ad a)]) (by rw [va_some ho5]) ?_
  refine va_get (D := D) (ci := 4) (v := .int (y4.1.1 b5 1)) (C := RX4) (T := TX4) (N := 18) hx hb hts (by decide +kernel) hown hK hP b5 (wld_o ct ad G y4.1 hc5 hk5 (by decide)) rfl 1 (by decide) (hts (.fieldLink RX6 83 "VideoSuite$Picture" "width" "I") (by decide +kernel)) (fun _ h9 => h9) rfl dX6_measureLuma_34 ?_
  obtain ⟨x6, ex6, hF⟩ := ltt_some hF
  refine lv_topi (fun zx6 ezx6 => ?_)
  obtain rfl : x6 = zx6 := ex6.trans ezx6.symm
  refine lv_imul hx hb dX6_measureLuma_37 ?_
  obtain ⟨x7, ex7, hF⟩ := ltt_some hF
  refine lv_topi (fun zx7 ezx7 => ?_)
  obtain rfl : x7 = zx7 := ex7.trans ezx7.symm
  refine lv_bipush (v := (16 : Int32)) hx hb dX6_measureLuma_38 (by decide) ?_
  refine lv_iload hx hb dX6_measureLuma_40 (lv_at hl 0 rfl) ?_
  refine lv_imul hx hb dX6_measureLuma_42 ?_
  obtain ⟨x8, ex8, hF⟩ := ltt_some hF
  refine lv_topi (fun zx8 ezx8 => ?_)
  obtain rfl : x8 = zx8 := ex8.trans ezx8.symm
  refine lv_iload hx hb dX6_measureLuma_43 (lv_at hl 1 rfl) ?_
  refine lv_iadd hx hb dX6_measureLuma_45 ?_
  obtain ⟨x9, ex9, hF⟩ := ltt_some hF
  refine lv_topi (fun zx9 ezx9 => ?_)
  obtain rfl : x9 = zx9 := ex9.trans ezx9.symm
  refine lv_bipush (v := (16 : Int32)) hx hb dX6_measureLuma_46 (by decide) ?_
  obtain ⟨y10, hy10, hF⟩ := bnd_some hF
  have hf9 := wA_in hD hA9 hS
  refine va_callv (va_runV (As := [va_re ad p1, .int y4.2, .int x7, .int x9, .int (16 : Int32)]) (rest := []) ⟨hx, hb, hml, hown, hts⟩ (kX6_turn l D ct ad Z G y4.1 H.size a p1 y4.2 x7 x9 ((16 : Int32)) y10 hc hk hy10) (cwV 5 hts gX6_measureLuma_X6_turn rfl rfl rfl (by decide +kernel) ⟨Nat.le_of_ble_eq_true rfl, Nat.le_of_ble_eq_true rfl⟩) ⟨fun a U g mk q => by obtain ⟨q0, q1, qP, qK, qD, qZ, qN⟩ := q; exact ⟨q0, q1, qP, va_K.moved (u := U) (U := U.calling g mk a) (Vm.Alike.refl U.vm) qK, qD, sF.moved (u := U) (U := U.calling g mk a) (Vm.Alike.refl U.vm) qZ, nF.same rfl qN⟩, va_recv hK hP (ci := 6) (q0 := a) rfl (wld_o ct ad G y4.1 hc hk (by decide)), fun U hU hW => ⟨rfl, by rw [hU], by rw [hU]; exact hP, va_K.moved hW.alike hK, hD.weaken (fun _ _ _ _ => trivial), by rw [hU]; exact ((hZ.kept hS.2.1).narrow hf9).moved hW.alike, hN.warm hW⟩⟩ rfl rfl hl.1 rfl (lv_room (Nat.le_of_ble_eq_true rfl)) dX6_measureLuma_48 ⟨(Nat.zero_le _), (Nat.zero_le _)⟩) hS (fun q _ h => hf9 q h) hf9 (fun u t H locs ht hvm hw hB hz1 hk1 hS => ?_)
  obtain ⟨hP, hK9, hD9⟩ := hB
  rw [ht] at hP
  have hD := hD9.weaken (fun _ q _ h => hf9 q.1 h)
  refine lv_aload_n hx hb dX6_measureLuma_51 rfl (lv_at hl 2 rfl) ?_
  refine lv_aloadq_n hx hb dX6_measureLuma_52 rfl (lv_at hl 3 rfl) ?_
  refine W_st (st' := [.ref (ad b3), .ref (ad a)]) (by rw [va_some ho3]) ?_
  refine va_get (D := D) (ci := 9) (v := va_re ad (y10.2 b3 9)) (C := RX9) (T := TX9) (N := 20) hx hb hts (by decide +kernel) hown hK hP b3 (wld_o ct ad G y10 hc3 hk3 (by decide)) rfl 9 (by decide) (hts (.fieldLink RX6 234 "VideoSuite$Work" "level" "[I") (by decide +kernel)) (fun _ h9 => h9) rfl dX6_measureLuma_53 ?_
  refine lv_iload_n hx hb dX6_measureLuma_56 rfl (lv_at hl 5 rfl) ?_
  refine lv_iload hx hb dX6_measureLuma_57 (lv_at hl 6 rfl) ?_
  obtain ⟨y11, hy11, hF⟩ := bnd_some hF
  have hf9 := wA_in hD hA9 hS
  refine va_calli (va_runS (As := [.int p2, .int p3]) (rest := [va_re ad (y10.2 b3 9), .ref (ad a)]) ⟨hx, hb, hml, hown, hts⟩ (kX9_levelAt l D ct ad Z G y10 H.size p2 p3 y11 hy11) (va_cwS 2 hts gX6_measureLuma_X9_levelAt rfl rfl rfl (by decide +kernel) ⟨Nat.le_of_ble_eq_true rfl, Nat.le_of_ble_eq_true rfl⟩) ⟨fun a U g mk q => by obtain ⟨q0, q1, qP, qK, qD, qZ, qN⟩ := q; exact ⟨q0, q1, qP, va_K.moved (u := U) (U := U.calling g mk a) (Vm.Alike.refl U.vm) qK, qD, sF.moved (u := U) (U := U.calling g mk a) (Vm.Alike.refl U.vm) qZ, nF.same rfl qN⟩, fun U hU hW => ⟨rfl, by rw [hU], by rw [hU]; exact hP, va_K.moved hW.alike hK, hD.weaken (fun _ _ _ _ => trivial), by rw [hU]; exact ((hZ.kept hS.2.1).narrow hf9).moved hW.alike, hN.warm hW⟩⟩ rfl rfl hl.1 rfl (lv_room (by simp only [List.map, va_re_cat]; exact Nat.le_of_ble_eq_true rfl)) dX6_measureLuma_59 ⟨(Nat.zero_le _), (Nat.zero_le _)⟩) hS (fun q _ h => hf9 q h) hf9 (fun r u t H locs ht hvm hw hB hz1 hk1 hS => ?_)
  obtain ⟨hP, hK9, hD9⟩ := hB
  rw [ht] at hP
  try dsimp only at hw
  subst hw
  have hD := hD9.weaken (fun _ q _ h => hf9 q.1 h)
  refine lv_iconst (v := (0 : Int32)) hx hb dX6_measureLuma_62 (by decide) ?_
  refine lv_iload hx hb dX6_measureLuma_63 (lv_at hl 7 rfl) ?_
  refine lv_iload hx hb dX6_measureLuma_65 (lv_at hl 8 rfl) ?_
  obtain ⟨y12, hy12, hF⟩ := bnd_some hF
  have hf9 := wA_in hD hA9 hS
  refine va_calli (va_runV (As := [va_re ad (y10.2 b3 9), .int y11.2, .int (0 : Int32), .int p4, .int p5]) (rest := []) ⟨hx, hb, hml, hown, hts⟩ (kX6_measure l D ct ad Z G y11.1 H.size a ((y10.2 b3 9)) y11.2 ((0 : Int32)) p4 p5 y12 hc hk hy12) (cwV 5 hts gX6_measureLuma_X6_measure rfl rfl rfl (by decide +kernel) ⟨Nat.le_of_ble_eq_true rfl, Nat.le_of_ble_eq_true rfl⟩) ⟨fun a U g mk q => by obtain ⟨q0, q1, qP, qK, qD, qZ, qN⟩ := q; exact ⟨q0, q1, qP, va_K.moved (u := U) (U := U.calling g mk a) (Vm.Alike.refl U.vm) qK, qD, sF.moved (u := U) (U := U.calling g mk a) (Vm.Alike.refl U.vm) qZ, nF.same rfl qN⟩, va_recv hK hP (ci := 6) (q0 := a) rfl (wld_o ct ad G y11.1 hc hk (by decide)), fun U hU hW => ⟨rfl, by rw [hU], by rw [hU]; exact hP, va_K.moved hW.alike hK, hD.weaken (fun _ _ _ _ => trivial), by rw [hU]; exact ((hZ.kept hS.2.1).narrow hf9).moved hW.alike, hN.warm hW⟩⟩ rfl rfl hl.1 rfl (lv_room (Nat.le_of_ble_eq_true rfl)) dX6_measureLuma_67 ⟨(Nat.zero_le _), (Nat.zero_le _)⟩) hS (fun q _ h => hf9 q h) hf9 (fun r u t H locs ht hvm hw hB hz1 hk1 hS => ?_)
  obtain ⟨hP, hK9, hD9⟩ := hB
  rw [ht] at hP
  try dsimp only at hw
  subst hw
  have hD := hD9.weaken (fun _ q _ h => hf9 q.1 h)
  refine lv_istore (lv' := [(9, .int y12.2), (8, .int y2.2), (7, .int y1.2), (0, .ref (ad a)), (1, va_re ad p0), (2, va_re ad p1), (3, .int p2), (4, .int p3), (5, .int p4), (6, .int p5)]) hx hb dX6_measureLuma_70 hl (by decide) rfl (fun ls hl => ?_)
  refine lv_aloadq_n hx hb dX6_measureLuma_72 rfl (lv_at hl 4 rfl) ?_
  refine W_st (st' := [.ref (ad b3)]) (by rw [va_some ho3]) ?_
  refine va_get (D := D) (ci := 9) (v := va_re ad (y12.1.2 b3 8)) (C := RX9) (T := TX9) (N := 20) hx hb hts (by decide +kernel) hown hK hP b3 (wld_o ct ad G y12.1 hc3 hk3 (by decide)) rfl 8 (by decide) (hts (.fieldLink RX6 277 "VideoSuite$Work" "total" "[I") (by decide +kernel)) (fun _ h9 => h9) rfl dX6_measureLuma_73 ?_
  refine lv_bipush (v := (24 : Int32)) hx hb dX6_measureLuma_76 (by decide) ?_
  refine lv_iload_n hx hb dX6_measureLuma_78 rfl (lv_at hl 6 rfl) ?_
  refine lv_imul hx hb dX6_measureLuma_79 ?_
  obtain ⟨x13, ex13, hF⟩ := ltt_some hF
  refine lv_topi (fun zx13 ezx13 => ?_)
  obtain rfl : x13 = zx13 := ex13.trans ezx13.symm
  refine lv_iload hx hb dX6_measureLuma_80 (lv_at hl 7 rfl) ?_
  refine lv_iadd hx hb dX6_measureLuma_82 ?_
  obtain ⟨x14, ex14, hF⟩ := ltt_some hF
  refine lv_topi (fun zx14 ezx14 => ?_)
  obtain rfl : x14 = zx14 := ex14.trans ezx14.symm
  refine lv_iload hx hb dX6_measureLuma_83 (lv_at hl 0 rfl) ?_
  obtain ⟨b15, ho15, hc15, hk15, hF⟩ := dr_some hF
  refine W_st (st' := [.int y12.2, .int x14, .ref (ad b15)]) (by rw [va_some ho15]) ?_
  obtain ⟨hvc, hF⟩ := chk_some hF
  refine va_iast hx hb hK hP hD hS b15 1 (wld_i ct ad G y12.1 hc15 hk15) rfl hvc dX6_measureLuma_85 (fun H locs hP hD hS => ?_)
  obtain ⟨M16, eM16, hF⟩ := ltt_some hF
  rw [set_i ct ad G y12.1 hc15 hk15, ← eM16] at hP hD
  refine lv_iload hx hb dX6_measureLuma_86 (lv_at hl 0 rfl) ?_
  obtain rfl := Option.some.inj hF
  exact W.iret (v := y12.2) hx hb hr (fun t ht hW => ⟨⟨_, (), rfl, rfl, ⟨by rw [ht]; exact hP, va_K.moved hW.alike hK, hD⟩⟩, hS.F ht⟩) hS.2.2 dX6_measureLuma_88
theorem ggX6_measureSixteen_X6_turnEven : GoodIn wsX6_measureSixteen wsX6_turnEven := goodIn_r _ [45, 3, 84, 85, 86, 87, 88, 89, 90, 91, 92, 93, 94, 95, 96, 97] (by decide +kernel) (by decide +kernel)
set_option maxRecDepth 20000 in
theorem gX6_measureSixteen_X6_turnEven : GoodIn wsX6_measureSixteen (wsV RX6 247 RX6 yX6_turnEven wsX6_turnEven) := goodIn_app (goodIn_of _ (by decide +kernel)) ggX6_measureSixteen_X6_turnEven
set_option maxRecDepth 20000 in
theorem ggX6_measureSixteen_X9_levelAt : GoodIn wsX6_measureSixteen wsX9_levelAt := goodIn_r _ [28] (by decide +kernel) (by decide +kernel)
set_option maxRecDepth 20000 in
theorem gX6_measureSixteen_X9_levelAt : GoodIn wsX6_measureSixteen (va_wsS RX6 237 yX9_levelAt wsX9_levelAt) := goodIn_app (goodIn_of _ (by decide +kernel)) ggX6_measureSixteen_X9_levelAt
set_option maxRecDepth 20000 in
theorem ggX6_measureSixteen_X6_normAt : GoodIn wsX6_measureSixteen wsX6_normAt := goodIn_r _ [35] (by decide +kernel) (by decide +kernel)
set_option maxRecDepth 20000 in
theorem gX6_measureSixteen_X6_normAt : GoodIn wsX6_measureSixteen (va_wsS RX6 227 yX6_normAt wsX6_normAt) := goodIn_app (goodIn_of _ (by decide +kernel)) ggX6_measureSixteen_X6_normAt
set_option maxRecDepth 20000 in
theorem ggX6_measureSixteen_X6_roundingOf : GoodIn wsX6_measureSixteen wsX6_roundingOf := goodIn_r _ [38] (by decide +kernel) (by decide +kernel)
set_option maxRecDepth 20000 in
theorem gX6_measureSixteen_X6_roundingOf : GoodIn wsX6_measureSixteen (va_wsS RX6 262 yX6_roundingOf wsX6_roundingOf) := goodIn_app (goodIn_of _ (by decide +kernel)) ggX6_measureSixteen_X6_roundingOf
set_option maxRecDepth 20000 in
theorem ggX6_measureSixteen_X6_measured : GoodIn wsX6_measureSixteen wsX6_measured := goodIn_r _ [41] (by decide +kernel) (by decide +kernel)
set_option maxRecDepth 20000 in
theorem gX6_measureSixteen_X6_measured : GoodIn wsX6_measureSixteen (va_wsS RX6 266 yX6_measured wsX6_measured) := goodIn_app (goodIn_of _ (by decide +kernel)) ggX6_measureSixteen_X6_measured
theorem ggX6_measureSixteen_X9_pieceX : GoodIn wsX6_measureSixteen wsX9_pieceX := goodIn_r _ [13] (by decide +kernel) (by decide +kernel)
set_option maxRecDepth 20000 in
theorem gX6_measureSixteen_X9_pieceX : GoodIn wsX6_measureSixteen (va_wsS RX6 76 yX9_pieceX wsX9_pieceX) := goodIn_app (goodIn_of _ (by decide +kernel)) ggX6_measureSixteen_X9_pieceX
set_option maxRecDepth 20000 in
theorem ggX6_measureSixteen_X9_pieceY : GoodIn wsX6_measureSixteen wsX9_pieceY := goodIn_r _ [16] (by decide +kernel) (by decide +kernel)
set_option maxRecDepth 20000 in
theorem gX6_measureSixteen_X9_pieceY : GoodIn wsX6_measureSixteen (va_wsS RX6 80 yX9_pieceY wsX9_pieceY) := goodIn_app (goodIn_of _ (by decide +kernel)) ggX6_measureSixteen_X9_pieceY
set_option maxRecDepth 20000 in
theorem ggX6_measureSixteen_X6_lumaAt : GoodIn wsX6_measureSixteen wsX6_lumaAt := goodIn_r _ [20, 2, 66, 67, 68, 69, 70, 71, 72, 73, 74, 75, 76, 77, 78, 79, 80, 81, 82, 83] (by decide +kernel) (by decide +kernel)
set_option maxRecDepth 20000 in
theorem gX6_measureSixteen_X6_lumaAt : GoodIn wsX6_measureSixteen (va_wsS RX6 175 yX6_lumaAt wsX6_lumaAt) := goodIn_app (goodIn_of _ (by decide +kernel)) ggX6_measureSixteen_X6_lumaAt
set_option maxRecDepth 20000 in
theorem ggX6_measureSixteen_X6_turn : GoodIn wsX6_measureSixteen wsX6_turn := goodIn_r _ [24, 4, 25, 84, 85, 86, 87, 88, 89, 90, 91, 92, 93, 94, 95, 96, 97] (by decide +kernel) (by decide +kernel)
set_option maxRecDepth 20000 in
theorem gX6_measureSixteen_X6_turn : GoodIn wsX6_measureSixteen (wsV RX6 270 RX6 yX6_turn wsX6_turn) := goodIn_app (goodIn_of _ (by decide +kernel)) ggX6_measureSixteen_X6_turn
set_option maxRecDepth 20000 in
theorem ggX6_measureSixteen_X6_measure : GoodIn wsX6_measureSixteen wsX6_measure := goodIn_r _ [32, 8, 7, 4, 9, 33, 34, 19, 35, 36, 37, 38, 39, 40, 41, 84, 85, 86, 87, 88, 89, 90, 91, 92, 93, 94, 95, 96, 97] (by decide +kernel) (by decide +kernel)
set_option maxRecDepth 20000 in
theorem gX6_measureSixteen_X6_measure : GoodIn wsX6_measureSixteen (wsV RX6 273 RX6 yX6_measure wsX6_measure) := goodIn_app (goodIn_of _ (by decide +kernel)) ggX6_measureSixteen_X6_measure
set_option maxRecDepth 20000 in
theorem dX6_measureSixteen_0 : decode cX6_measureSixteen 0 = .ok (.iconst 0, 1) := by decide +kernel
theorem dX6_measureSixteen_1 : decode cX6_measureSixteen 1 = .ok (.istore 5, 2) := by decide +kernel
theorem dX6_measureSixteen_3 : decode cX6_measureSixteen 3 = .ok (.iconst 0, 1) := by decide +kernel
theorem dX6_measureSixteen_4 : decode cX6_measureSixteen 4 = .ok (.istore 6, 2) := by decide +kernel
theorem dX6_measureSixteen_6 : decode cX6_measureSixteen 6 = .ok (.iload 6, 2) := by decide +kernel
theorem dX6_measureSixteen_8 : decode cX6_measureSixteen 8 = .ok (.bipush 16, 2) := by decide +kernel
theorem dX6_measureSixteen_10 : decode cX6_measureSixteen 10 = .ok (.if_icmp .ge 119, 3) := by decide +kernel
theorem dX6_measureSixteen_13 : decode cX6_measureSixteen 13 = .ok (.iload 6, 2) := by decide +kernel
theorem dX6_measureSixteen_15 : decode cX6_measureSixteen 15 = .ok (.invokestatic 76, 3) := by decide +kernel
theorem dX6_measureSixteen_18 : decode cX6_measureSixteen 18 = .ok (.istore 7, 2) := by decide +kernel
theorem dX6_measureSixteen_20 : decode cX6_measureSixteen 20 = .ok (.iload 6, 2) := by decide +kernel
theorem dX6_measureSixteen_22 : decode cX6_measureSixteen 22 = .ok (.invokestatic 80, 3) := by decide +kernel
theorem dX6_measureSixteen_25 : decode cX6_measureSixteen 25 = .ok (.istore 8, 2) := by decide +kernel
theorem dX6_measureSixteen_27 : decode cX6_measureSixteen 27 = .ok (.aload_n 0, 1) := by decide +kernel
theorem dX6_measureSixteen_28 : decode cX6_measureSixteen 28 = .ok (.aload_n 2, 1) := by decide +kernel
theorem dX6_measureSixteen_29 : decode cX6_measureSixteen 29 = .ok (.aload_n 1, 1) := by decide +kernel
theorem dX6_measureSixteen_30 : decode cX6_measureSixteen 30 = .ok (.getfield 46, 3) := by decide +kernel
theorem dX6_measureSixteen_33 : decode cX6_measureSixteen 33 = .ok (.iload_n 3, 1) := by decide +kernel
theorem dX6_measureSixteen_34 : decode cX6_measureSixteen 34 = .ok (.iload 7, 2) := by decide +kernel
theorem dX6_measureSixteen_36 : decode cX6_measureSixteen 36 = .ok (.iload 8, 2) := by decide +kernel
theorem dX6_measureSixteen_38 : decode cX6_measureSixteen 38 = .ok (.invokestatic 175, 3) := by decide +kernel
theorem dX6_measureSixteen_41 : decode cX6_measureSixteen 41 = .ok (.bipush 16, 2) := by decide +kernel
theorem dX6_measureSixteen_43 : decode cX6_measureSixteen 43 = .ok (.aload_n 1, 1) := by decide +kernel
theorem dX6_measureSixteen_44 : decode cX6_measureSixteen 44 = .ok (.getfield 46, 3) := by decide +kernel
theorem dX6_measureSixteen_47 : decode cX6_measureSixteen 47 = .ok (.getfield 83, 3) := by decide +kernel
theorem dX6_measureSixteen_50 : decode cX6_measureSixteen 50 = .ok (.imul, 1) := by decide +kernel
theorem dX6_measureSixteen_51 : decode cX6_measureSixteen 51 = .ok (.bipush 16, 2) := by decide +kernel
theorem dX6_measureSixteen_53 : decode cX6_measureSixteen 53 = .ok (.iload 8, 2) := by decide +kernel
theorem dX6_measureSixteen_55 : decode cX6_measureSixteen 55 = .ok (.imul, 1) := by decide +kernel
theorem dX6_measureSixteen_56 : decode cX6_measureSixteen 56 = .ok (.iload 7, 2) := by decide +kernel
theorem dX6_measureSixteen_58 : decode cX6_measureSixteen 58 = .ok (.iadd, 1) := by decide +kernel
theorem dX6_measureSixteen_59 : decode cX6_measureSixteen 59 = .ok (.bipush 16, 2) := by decide +kernel
theorem dX6_measureSixteen_61 : decode cX6_measureSixteen 61 = .ok (.invokevirtual 270, 3) := by decide +kernel
theorem dX6_measureSixteen_64 : decode cX6_measureSixteen 64 = .ok (.aload_n 0, 1) := by decide +kernel
theorem dX6_measureSixteen_65 : decode cX6_measureSixteen 65 = .ok (.getfield 33, 3) := by decide +kernel
theorem dX6_measureSixteen_68 : decode cX6_measureSixteen 68 = .ok (.iload 8, 2) := by decide +kernel
theorem dX6_measureSixteen_70 : decode cX6_measureSixteen 70 = .ok (.iload 7, 2) := by decide +kernel
theorem dX6_measureSixteen_72 : decode cX6_measureSixteen 72 = .ok (.iconst 4, 1) := by decide +kernel
theorem dX6_measureSixteen_73 : decode cX6_measureSixteen 73 = .ok (.idiv, 1) := by decide +kernel
theorem dX6_measureSixteen_74 : decode cX6_measureSixteen 74 = .ok (.iadd, 1) := by decide +kernel
theorem dX6_measureSixteen_75 : decode cX6_measureSixteen 75 = .ok (.aload_n 0, 1) := by decide +kernel
theorem dX6_measureSixteen_76 : decode cX6_measureSixteen 76 = .ok (.getfield 30, 3) := by decide +kernel
theorem dX6_measureSixteen_79 : decode cX6_measureSixteen 79 = .ok (.iconst 0, 1) := by decide +kernel
theorem dX6_measureSixteen_80 : decode cX6_measureSixteen 80 = .ok (.iaload, 1) := by decide +kernel
theorem dX6_measureSixteen_81 : decode cX6_measureSixteen 81 = .ok (.iastore, 1) := by decide +kernel
theorem dX6_measureSixteen_82 : decode cX6_measureSixteen 82 = .ok (.aload_n 0, 1) := by decide +kernel
theorem dX6_measureSixteen_83 : decode cX6_measureSixteen 83 = .ok (.aload_n 1, 1) := by decide +kernel
theorem dX6_measureSixteen_84 : decode cX6_measureSixteen 84 = .ok (.getfield 234, 3) := by decide +kernel
theorem dX6_measureSixteen_87 : decode cX6_measureSixteen 87 = .ok (.iload_n 3, 1) := by decide +kernel
theorem dX6_measureSixteen_88 : decode cX6_measureSixteen 88 = .ok (.iload 6, 2) := by decide +kernel
theorem dX6_measureSixteen_90 : decode cX6_measureSixteen 90 = .ok (.invokestatic 237, 3) := by decide +kernel
theorem dX6_measureSixteen_93 : decode cX6_measureSixteen 93 = .ok (.iconst 1, 1) := by decide +kernel
theorem dX6_measureSixteen_94 : decode cX6_measureSixteen 94 = .ok (.iload 4, 2) := by decide +kernel
theorem dX6_measureSixteen_96 : decode cX6_measureSixteen 96 = .ok (.iconst 1, 1) := by decide +kernel
theorem dX6_measureSixteen_97 : decode cX6_measureSixteen 97 = .ok (.invokevirtual 273, 3) := by decide +kernel
theorem dX6_measureSixteen_100 : decode cX6_measureSixteen 100 = .ok (.istore 9, 2) := by decide +kernel
theorem dX6_measureSixteen_102 : decode cX6_measureSixteen 102 = .ok (.aload_n 1, 1) := by decide +kernel
theorem dX6_measureSixteen_103 : decode cX6_measureSixteen 103 = .ok (.getfield 277, 3) := by decide +kernel
theorem dX6_measureSixteen_106 : decode cX6_measureSixteen 106 = .ok (.bipush 24, 2) := by decide +kernel
theorem dX6_measureSixteen_108 : decode cX6_measureSixteen 108 = .ok (.iload_n 3, 1) := by decide +kernel
theorem dX6_measureSixteen_109 : decode cX6_measureSixteen 109 = .ok (.imul, 1) := by decide +kernel
theorem dX6_measureSixteen_110 : decode cX6_measureSixteen 110 = .ok (.iload 6, 2) := by decide +kernel
theorem dX6_measureSixteen_112 : decode cX6_measureSixteen 112 = .ok (.iadd, 1) := by decide +kernel
theorem dX6_measureSixteen_113 : decode cX6_measureSixteen 113 = .ok (.iload 9, 2) := by decide +kernel
theorem dX6_measureSixteen_115 : decode cX6_measureSixteen 115 = .ok (.iastore, 1) := by decide +kernel
theorem dX6_measureSixteen_116 : decode cX6_measureSixteen 116 = .ok (.iload 5, 2) := by decide +kernel
theorem dX6_measureSixteen_118 : decode cX6_measureSixteen 118 = .ok (.iload 9, 2) := by decide +kernel
theorem dX6_measureSixteen_120 : decode cX6_measureSixteen 120 = .ok (.iadd, 1) := by decide +kernel
theorem dX6_measureSixteen_121 : decode cX6_measureSixteen 121 = .ok (.istore 5, 2) := by decide +kernel
theorem dX6_measureSixteen_123 : decode cX6_measureSixteen 123 = .ok (.iinc 6 1, 3) := by decide +kernel
theorem dX6_measureSixteen_126 : decode cX6_measureSixteen 126 = .ok (.goto (-120), 3) := by decide +kernel
theorem dX6_measureSixteen_129 : decode cX6_measureSixteen 129 = .ok (.aload_n 0, 1) := by decide +kernel
theorem dX6_measureSixteen_130 : decode cX6_measureSixteen 130 = .ok (.invokevirtual 247, 3) := by decide +kernel
theorem dX6_measureSixteen_133 : decode cX6_measureSixteen 133 = .ok (.iload_n 3, 1) := by decide +kernel
theorem dX6_measureSixteen_134 : decode cX6_measureSixteen 134 = .ok (.bipush 16, 2) := by decide +kernel
theorem dX6_measureSixteen_136 : decode cX6_measureSixteen 136 = .ok (.invokestatic 237, 3) := by decide +kernel
theorem dX6_measureSixteen_139 : decode cX6_measureSixteen 139 = .ok (.istore 6, 2) := by decide +kernel
theorem dX6_measureSixteen_141 : decode cX6_measureSixteen 141 = .ok (.iconst 0, 1) := by decide +kernel
theorem dX6_measureSixteen_142 : decode cX6_measureSixteen 142 = .ok (.istore 7, 2) := by decide +kernel
theorem dX6_measureSixteen_144 : decode cX6_measureSixteen 144 = .ok (.iload 7, 2) := by decide +kernel
theorem dX6_measureSixteen_146 : decode cX6_measureSixteen 146 = .ok (.bipush 16, 2) := by decide +kernel
theorem dX6_measureSixteen_148 : decode cX6_measureSixteen 148 = .ok (.if_icmp .ge 75, 3) := by decide +kernel
theorem dX6_measureSixteen_151 : decode cX6_measureSixteen 151 = .ok (.aload_n 0, 1) := by decide +kernel
theorem dX6_measureSixteen_152 : decode cX6_measureSixteen 152 = .ok (.getfield 33, 3) := by decide +kernel
theorem dX6_measureSixteen_155 : decode cX6_measureSixteen 155 = .ok (.iconst 4, 1) := by decide +kernel
theorem dX6_measureSixteen_156 : decode cX6_measureSixteen 156 = .ok (.getstatic 221, 3) := by decide +kernel
theorem dX6_measureSixteen_159 : decode cX6_measureSixteen 159 = .ok (.iload 7, 2) := by decide +kernel
theorem dX6_measureSixteen_161 : decode cX6_measureSixteen 161 = .ok (.iaload, 1) := by decide +kernel
theorem dX6_measureSixteen_162 : decode cX6_measureSixteen 162 = .ok (.imul, 1) := by decide +kernel
theorem dX6_measureSixteen_163 : decode cX6_measureSixteen 163 = .ok (.getstatic 218, 3) := by decide +kernel
theorem dX6_measureSixteen_166 : decode cX6_measureSixteen 166 = .ok (.iload 7, 2) := by decide +kernel
theorem dX6_measureSixteen_168 : decode cX6_measureSixteen 168 = .ok (.iaload, 1) := by decide +kernel
theorem dX6_measureSixteen_169 : decode cX6_measureSixteen 169 = .ok (.iadd, 1) := by decide +kernel
theorem dX6_measureSixteen_170 : decode cX6_measureSixteen 170 = .ok (.iaload, 1) := by decide +kernel
theorem dX6_measureSixteen_171 : decode cX6_measureSixteen 171 = .ok (.iconst 2, 1) := by decide +kernel
theorem dX6_measureSixteen_172 : decode cX6_measureSixteen 172 = .ok (.idiv, 1) := by decide +kernel
theorem dX6_measureSixteen_173 : decode cX6_measureSixteen 173 = .ok (.istore 8, 2) := by decide +kernel
theorem dX6_measureSixteen_175 : decode cX6_measureSixteen 175 = .ok (.aload_n 1, 1) := by decide +kernel
theorem dX6_measureSixteen_176 : decode cX6_measureSixteen 176 = .ok (.getfield 234, 3) := by decide +kernel
theorem dX6_measureSixteen_179 : decode cX6_measureSixteen 179 = .ok (.iload 6, 2) := by decide +kernel
theorem dX6_measureSixteen_181 : decode cX6_measureSixteen 181 = .ok (.iload 7, 2) := by decide +kernel
theorem dX6_measureSixteen_183 : decode cX6_measureSixteen 183 = .ok (.iadd, 1) := by decide +kernel
theorem dX6_measureSixteen_184 : decode cX6_measureSixteen 184 = .ok (.iload 8, 2) := by decide +kernel
theorem dX6_measureSixteen_186 : decode cX6_measureSixteen 186 = .ok (.getstatic 259, 3) := by decide +kernel
theorem dX6_measureSixteen_189 : decode cX6_measureSixteen 189 = .ok (.iload 4, 2) := by decide +kernel
theorem dX6_measureSixteen_191 : decode cX6_measureSixteen 191 = .ok (.iconst 0, 1) := by decide +kernel
theorem dX6_measureSixteen_192 : decode cX6_measureSixteen 192 = .ok (.iconst 0, 1) := by decide +kernel
theorem dX6_measureSixteen_193 : decode cX6_measureSixteen 193 = .ok (.invokestatic 227, 3) := by decide +kernel
theorem dX6_measureSixteen_196 : decode cX6_measureSixteen 196 = .ok (.iaload, 1) := by decide +kernel
theorem dX6_measureSixteen_197 : decode cX6_measureSixteen 197 = .ok (.iconst 2, 1) := by decide +kernel
theorem dX6_measureSixteen_198 : decode cX6_measureSixteen 198 = .ok (.iload 4, 2) := by decide +kernel
theorem dX6_measureSixteen_200 : decode cX6_measureSixteen 200 = .ok (.iconst 1, 1) := by decide +kernel
theorem dX6_measureSixteen_201 : decode cX6_measureSixteen 201 = .ok (.invokestatic 262, 3) := by decide +kernel
theorem dX6_measureSixteen_204 : decode cX6_measureSixteen 204 = .ok (.imul, 1) := by decide +kernel
theorem dX6_measureSixteen_205 : decode cX6_measureSixteen 205 = .ok (.bipush 16, 2) := by decide +kernel
theorem dX6_measureSixteen_207 : decode cX6_measureSixteen 207 = .ok (.iload 4, 2) := by decide +kernel
theorem dX6_measureSixteen_209 : decode cX6_measureSixteen 209 = .ok (.bipush 6, 2) := by decide +kernel
theorem dX6_measureSixteen_211 : decode cX6_measureSixteen 211 = .ok (.idiv, 1) := by decide +kernel
theorem dX6_measureSixteen_212 : decode cX6_measureSixteen 212 = .ok (.iadd, 1) := by decide +kernel
theorem dX6_measureSixteen_213 : decode cX6_measureSixteen 213 = .ok (.invokestatic 266, 3) := by decide +kernel
theorem dX6_measureSixteen_216 : decode cX6_measureSixteen 216 = .ok (.iastore, 1) := by decide +kernel
theorem dX6_measureSixteen_217 : decode cX6_measureSixteen 217 = .ok (.iinc 7 1, 3) := by decide +kernel
theorem dX6_measureSixteen_220 : decode cX6_measureSixteen 220 = .ok (.goto (-76), 3) := by decide +kernel
theorem dX6_measureSixteen_223 : decode cX6_measureSixteen 223 = .ok (.iload 5, 2) := by decide +kernel
theorem dX6_measureSixteen_225 : decode cX6_measureSixteen 225 = .ok (.ifCond .le 7, 3) := by decide +kernel
theorem dX6_measureSixteen_228 : decode cX6_measureSixteen 228 = .ok (.iconst 1, 1) := by decide +kernel
theorem dX6_measureSixteen_229 : decode cX6_measureSixteen 229 = .ok (.goto 4, 3) := by decide +kernel
theorem dX6_measureSixteen_232 : decode cX6_measureSixteen 232 = .ok (.iconst 0, 1) := by decide +kernel
theorem dX6_measureSixteen_233 : decode cX6_measureSixteen 233 = .ok (.ireturn, 1) := by decide +kernel
def FX6_measureSixteen (G : GG) (M : DD) (a : Nat) (p0 : Option Nat) (p1 : Option Nat) (p2 : Int32) (p3 : Int32) : Option (DD × Int32) :=
  bnd (itr (fun (s2 : Int32 × Int32 × DD) => ((if ((16 : Int32)) ≤ s2.2.1 then (some (.inr (s2.1, s2.2.1, s2.2.2))) else
  (bnd (FX9_pieceX G s2.2.2 s2.2.1) fun y34 =>
  bnd (FX9_pieceY G y34.1 s2.2.1) fun y35 =>
  dr G 9 p0 fun b36 =>
  bnd (FX6_lumaAt G y35.1 ((y35.1.2 b36 0)) p2 y34.2 y35.2) fun y37 =>
  dr G 4 ((y37.1.2 b36 0)) fun b38 =>
  ltt (y37.1.1 b38 1) fun x39 =>
  ltt ((((16 : Int32)) * x39)) fun x40 =>
  ltt ((((16 : Int32)) * y35.2)) fun x41 =>
  ltt ((x41 + y34.2)) fun x42 =>
  bnd (FX6_turn G y37.1 a p1 y37.2 x40 x42 ((16 : Int32))) fun y43 =>
  ltt (y34.2 / ((4 : Int32))) fun x44 =>
  ltt ((y35.2 + x44)) fun x45 =>
  dr G 13 ((y43.2 a 6)) fun b46 =>
  chk (¬ (((0 : Int32)) < 0 ∨ G.2.2 b46 ≤ ((0 : Int32)).toNatClampNeg)) <|
  ltt (y43.1 b46 ((0 : Int32)).toNatClampNeg) fun x47 =>
  dr G 13 ((y43.2 a 7)) fun b48 =>
  chk (¬ (x45 < 0 ∨ G.2.2 b48 ≤ x45.toNatClampNeg)) <|
  ltt (uI y43 b48 x45.toNatClampNeg x47) fun M49 =>
  bnd (FX9_levelAt G M49 p2 s2.2.1) fun y50 =>
  bnd (FX6_measure G y50.1 a ((M49.2 b36 9)) y50.2 ((1 : Int32)) p3 ((1 : Int32))) fun y51 =>
  ltt ((((24 : Int32)) * p2)) fun x52 =>
  ltt ((x52 + s2.2.1)) fun x53 =>
  dr G 13 ((y51.1.2 b36 8)) fun b54 =>
  chk (¬ (x53 < 0 ∨ G.2.2 b54 ≤ x53.toNatClampNeg)) <|
  ltt (uI y51.1 b54 x53.toNatClampNeg y51.2) fun M55 =>
  ltt ((s2.1 + y51.2)) fun x56 =>
  ltt (s2.2.1 + (1 : Int32)) fun x57 =>
  some (.inl (x56, x57, M55)))) : Option ((Int32 × Int32 × DD) ⊕ (Int32 × Int32 × DD)))) 1000000 ((0 : Int32), (0 : Int32), M)) fun (y1 : Int32 × Int32 × DD) =>
  bnd (FX6_turnEven G y1.2.2 a) fun y4 =>
  bnd (FX9_levelAt G y4 p2 ((16 : Int32))) fun y5 =>
  bnd (itr (fun (s7 : Int32 × DD) => ((if ((16 : Int32)) ≤ s7.1 then (some (.inr (s7.1, s7.2))) else
  (chk (¬ (s7.1 < 0 ∨ 16 ≤ s7.1.toNatClampNeg)) <|
  ltt ((sT 15).getD s7.1.toNatClampNeg 0) fun x13 =>
  ltt ((((4 : Int32)) * x13)) fun x14 =>
  chk (¬ (s7.1 < 0 ∨ 16 ≤ s7.1.toNatClampNeg)) <|
  ltt ((sT 14).getD s7.1.toNatClampNeg 0) fun x15 =>
  ltt ((x14 + x15)) fun x16 =>
  dr G 13 ((s7.2.2 a 7)) fun b17 =>
  chk (¬ (x16 < 0 ∨ G.2.2 b17 ≤ x16.toNatClampNeg)) <|
  ltt (s7.2.1 b17 x16.toNatClampNeg) fun x18 =>
  ltt (x18 / ((2 : Int32))) fun x19 =>
  dr G 9 p0 fun b20 =>
  ltt ((y5.2 + s7.1)) fun x21 =>
  bnd (FX6_normAt G s7.2 p3 ((0 : Int32)) ((0 : Int32))) fun y22 =>
  chk (¬ (y22.2 < 0 ∨ 18 ≤ y22.2.toNatClampNeg)) <|
  ltt ((sT 12).getD y22.2.toNatClampNeg 0) fun x23 =>
  bnd (FX6_roundingOf G y22.1 p3 ((1 : Int32))) fun y24 =>
  ltt ((((2 : Int32)) * y24.2)) fun x25 =>
  ltt (p3 / ((6 : Int32))) fun x26 =>
  ltt ((((16 : Int32)) + x26)) fun x27 =>
  bnd (FX6_measured G y24.1 x19 x23 x25 x27) fun y28 =>
  dr G 13 ((s7.2.2 b20 9)) fun b29 =>
  chk (¬ (x21 < 0 ∨ G.2.2 b29 ≤ x21.toNatClampNeg)) <|
  ltt (uI y28.1 b29 x21.toNatClampNeg y28.2) fun M30 =>
  ltt (s7.1 + (1 : Int32)) fun x31 =>
  some (.inl (x31, M30)))) : Option ((Int32 × DD) ⊕ (Int32 × DD)))) 1000000 ((0 : Int32), y5.1)) fun (y6 : Int32 × DD) =>
  bnd (if y1.1 ≤ ((0 : Int32)) then (some ((0 : Int32))) else
  (some ((1 : Int32)))) fun (y9 : Int32) =>
  chk (y9 = 0 ∨ y9 = 1) <|
  some (y6.2, y9)
set_option maxHeartbeats 4000000 in
set_option maxRecDepth 100000 in
theorem kX6_measureSixteen (l : Launch) (D : va_G) (ct : CT) (ad : Nat → Nat) (Z : Nat → Nat) (G : GG) (M : DD) (sz : Nat) (a : Nat) (p0 : Option Nat) (p1 : Option Nat) (p2 : Int32) (p3 : Int32) (y : DD × Int32) (hc : a < G.1) (hk : G.2.1 a = 6) (hF : FX6_measureSixteen G M a p0 p1 p2 p3 = some y) : Met l yX6_measureSixteen wsX6_measureSixteen ({ frames := 2, cells := 0, slots := 0, locals := 54 }) (va_Pc [.ref (ad a), va_re ad p0, va_re ad p1, .int p2, .int p3] (kB D ct ad Z G M sz)) (va_Qi (fun (q : Int32) (_ : Unit) => q = y.2) (fun _ t => kE D ct ad G (wA ad G sz) y.1 t) (wA ad G sz)) 0 0 (wA ad G sz) := by
  refine Met.ofW (cc := cX6_measureSixteen) (maxL := 10) (ret := (some .boolean)) (by decide) rfl ?_
  intro p e s m args below meth c s₁ B hml hv
  obtain ⟨rfl, hsz, hP, hK, hD0, hZ, hN⟩ := hv
  have hx := B.exec
  have hb := B.bytes
  have hr := B.returns
  have hts := atoms_spec (ws := wsX6_measureSixteen) B.pre
  have hown : s.vm.findClass RX6 = some m.cls := findClass_of_methodNamed B.named
  have hlocks := B.notSynchronized
  subst hsz
  have hD := wD_self (sz := s.heap.size) hD0
  have hA9 : ∀ q, s.heap.size ≤ q → wA ad G s.heap.size q := fun q h => Or.inr h
  generalize hAe : wA ad G s.heap.size = A at hD hA9 hZ ⊢
  have hS : va_S A s.heap s.heap [] := va_S.rf
  have hl := lv_entry ([.ref (ad a), va_re ad p0, va_re ad p1, .int p2, .int p3]) (n := 10) (by cases p0 <;> cases p1 <;> exact Nat.le_of_ble_eq_true rfl)
  rw [lg_entry_eq]
  generalize (lg_sl ([.ref (ad a), va_re ad p0, va_re ad p1, .int p2, .int p3]) ++ List.replicate (10 - (lg_sl ([.ref (ad a), va_re ad p0, va_re ad p1, .int p2, .int p3])).length) Slot.unset).toArray = ls at hl ⊢
  have hl : lv_has ls 10 [(0, .ref (ad a)), (1, va_re ad p0), (2, va_re ad p1), (3, .int p2), (4, .int p3)] := by have e9 : lv_args 0 [.ref (ad a), va_re ad p0, va_re ad p1, .int p2, .int p3] = [(0, .ref (ad a)), (1, va_re ad p0), (2, va_re ad p1), (3, .int p2), (4, .int p3)] := (by cases p0 <;> cases p1 <;> rfl); rw [e9] at hl; exact hl
  unfold FX6_measureSixteen at hF
  refine lv_iconst (v := (0 : Int32)) hx hb dX6_measureSixteen_0 (by decide) ?_
  refine lv_istore (lv' := [(5, .int (0 : Int32)), (0, .ref (ad a)), (1, va_re ad p0), (2, va_re ad p1), (3, .int p2), (4, .int p3)]) hx hb dX6_measureSixteen_1 hl (by decide) rfl (fun ls hl => ?_)
  refine lv_iconst (v := (0 : Int32)) hx hb dX6_measureSixteen_3 (by decide) ?_
  refine lv_istore (lv' := [(6, .int (0 : Int32)), (5, .int (0 : Int32)), (0, .ref (ad a)), (1, va_re ad p0), (2, va_re ad p1), (3, .int p2), (4, .int p3)]) hx hb dX6_measureSixteen_4 hl (by decide) rfl (fun ls hl => ?_)
  obtain ⟨y1, hy1, hF⟩ := bnd_some hF
  have K1 : ∀ (H : Heap) (locs : List Loc) (ls : Array Slot), va_P D classes (wld ct ad G y1.2.2) H → va_D A (wld ct ad G y1.2.2) → va_S A s.heap H locs → lv_has ls 10 [(6, .int y1.2.1), (5, .int y1.1), (0, .ref (ad a)), (1, va_re ad p0), (2, va_re ad p1), (3, .int p2), (4, .int p3)] → W p l e (headSpec wsX6_measureSixteen ({ frames := 2, cells := 0, slots := 0, locals := 54 })).room s m ([.ref (ad a), va_re ad p0, va_re ad p1, .int p2, .int p3] : List Value).toArray below meth c H locs 0 0 (MQ below (va_Qi (fun (q : Int32) (_ : Unit) => q = y.2) (fun _ t => kE D ct ad G A y.1 t) A) ([.ref (ad a), va_re ad p0, va_re ad p1, .int p2, .int p3] : List Value).toArray s 0 0 A) (F0 m 129 ls []) := by
    intro H locs ls hP hD hS hl
    refine lv_aload_n hx hb dX6_measureSixteen_129 rfl (lv_at hl 2 rfl) ?_
    obtain ⟨y4, hy4, hF⟩ := bnd_some hF
    have hf9 := wA_in hD hA9 hS
    refine va_callv (va_runV (As := []) (rest := []) ⟨hx, hb, hml, hown, hts⟩ (kX6_turnEven l D ct ad Z G y1.2.2 H.size a y4 hc hk hy4) (cwV 0 hts gX6_measureSixteen_X6_turnEven rfl rfl rfl (by decide +kernel) ⟨Nat.le_of_ble_eq_true rfl, Nat.le_of_ble_eq_true rfl⟩) ⟨fun a U g mk q => by obtain ⟨q0, q1, qP, qK, qD, qZ, qN⟩ := q; exact ⟨q0, q1, qP, va_K.moved (u := U) (U := U.calling g mk a) (Vm.Alike.refl U.vm) qK, qD, sF.moved (u := U) (U := U.calling g mk a) (Vm.Alike.refl U.vm) qZ, nF.same rfl qN⟩, va_recv hK hP (ci := 6) (q0 := a) rfl (wld_o ct ad G y1.2.2 hc hk (by decide)), fun U hU hW => ⟨rfl, by rw [hU], by rw [hU]; exact hP, va_K.moved hW.alike hK, hD.weaken (fun _ _ _ _ => trivial), by rw [hU]; exact ((hZ.kept hS.2.1).narrow hf9).moved hW.alike, hN.warm hW⟩⟩ rfl rfl hl.1 rfl (lv_room (Nat.le_of_ble_eq_true rfl)) dX6_measureSixteen_130 ⟨(Nat.zero_le _), (Nat.zero_le _)⟩) hS (fun q _ h => hf9 q h) hf9 (fun u t H locs ht hvm hw hB hz1 hk1 hS => ?_)
    obtain ⟨hP, hK9, hD9⟩ := hB
    rw [ht] at hP
    have hD := hD9.weaken (fun _ q _ h => hf9 q.1 h)
    refine lv_iload_n hx hb dX6_measureSixteen_133 rfl (lv_at hl 5 rfl) ?_
    refine lv_bipush (v := (16 : Int32)) hx hb dX6_measureSixteen_134 (by decide) ?_
    obtain ⟨y5, hy5, hF⟩ := bnd_some hF
    have hf9 := wA_in hD hA9 hS
    refine va_calli (va_runS (As := [.int p2, .int (16 : Int32)]) (rest := []) ⟨hx, hb, hml, hown, hts⟩ (kX9_levelAt l D ct ad Z G y4 H.size p2 ((16 : Int32)) y5 hy5) (va_cwS 2 hts gX6_measureSixteen_X9_levelAt rfl rfl rfl (by decide +kernel) ⟨Nat.le_of_ble_eq_true rfl, Nat.le_of_ble_eq_true rfl⟩) ⟨fun a U g mk q => by obtain ⟨q0, q1, qP, qK, qD, qZ, qN⟩ := q; exact ⟨q0, q1, qP, va_K.moved (u := U) (U := U.calling g mk a) (Vm.Alike.refl U.vm) qK, qD, sF.moved (u := U) (U := U.calling g mk a) (Vm.Alike.refl U.vm) qZ, nF.same rfl qN⟩, fun U hU hW => ⟨rfl, by rw [hU], by rw [hU]; exact hP, va_K.moved hW.alike hK, hD.weaken (fun _ _ _ _ => trivial), by rw [hU]; exact ((hZ.kept hS.2.1).narrow hf9).moved hW.alike, hN.warm hW⟩⟩ rfl rfl hl.1 rfl (lv_room (Nat.le_of_ble_eq_true rfl)) dX6_measureSixteen_136 ⟨(Nat.zero_le _), (Nat.zero_le _)⟩) hS (fun q _ h => hf9 q h) hf9 (fun r u t H locs ht hvm hw hB hz1 hk1 hS => ?_)
    obtain ⟨hP, hK9, hD9⟩ := hB
    rw [ht] at hP
    try dsimp only at hw
    subst hw
    have hD := hD9.weaken (fun _ q _ h => hf9 q.1 h)
    refine lv_istore (lv' := [(6, .int y5.2), (5, .int y1.1), (0, .ref (ad a)), (1, va_re ad p0), (2, va_re ad p1), (3, .int p2), (4, .int p3)]) hx hb dX6_measureSixteen_139 hl (by decide) rfl (fun ls hl => ?_)
    refine lv_iconst (v := (0 : Int32)) hx hb dX6_measureSixteen_141 (by decide) ?_
    refine lv_istore (lv' := [(7, .int (0 : Int32)), (6, .int y5.2), (5, .int y1.1), (0, .ref (ad a)), (1, va_re ad p0), (2, va_re ad p1), (3, .int p2), (4, .int p3)]) hx hb dX6_measureSixteen_142 hl (by decide) rfl (fun ls hl => ?_)
    obtain ⟨y6, hy6, hF⟩ := bnd_some hF
    have K6 : ∀ (H : Heap) (locs : List Loc) (ls : Array Slot), va_P D classes (wld ct ad G y6.2) H → va_D A (wld ct ad G y6.2) → va_S A s.heap H locs → lv_has ls 10 [(7, .int y6.1), (6, .int y5.2), (5, .int y1.1), (0, .ref (ad a)), (1, va_re ad p0), (2, va_re ad p1), (3, .int p2), (4, .int p3)] → W p l e (headSpec wsX6_measureSixteen ({ frames := 2, cells := 0, slots := 0, locals := 54 })).room s m ([.ref (ad a), va_re ad p0, va_re ad p1, .int p2, .int p3] : List Value).toArray below meth c H locs 0 0 (MQ below (va_Qi (fun (q : Int32) (_ : Unit) => q = y.2) (fun _ t => kE D ct ad G A y.1 t) A) ([.ref (ad a), va_re ad p0, va_re ad p1, .int p2, .int p3] : List Value).toArray s 0 0 A) (F0 m 223 ls []) := by
      intro H locs ls hP hD hS hl
      refine lv_iload hx hb dX6_measureSixteen_223 (lv_at hl 2 rfl) ?_
      obtain ⟨y9, hy9, hF⟩ := bnd_some hF
      have J9 : ∀ (H : Heap) (locs : List Loc) (ls : Array Slot), va_P D classes (wld ct ad G y6.2) H → va_D A (wld ct ad G y6.2) → va_S A s.heap H locs → lv_has ls 10 [(7, .int y6.1), (6, .int y5.2), (5, .int y1.1), (0, .ref (ad a)), (1, va_re ad p0), (2, va_re ad p1), (3, .int p2), (4, .int p3)] → W p l e (headSpec wsX6_measureSixteen ({ frames := 2, cells := 0, slots := 0, locals := 54 })).room s m ([.ref (ad a), va_re ad p0, va_re ad p1, .int p2, .int p3] : List Value).toArray below meth c H locs 0 0 (MQ below (va_Qi (fun (q : Int32) (_ : Unit) => q = y.2) (fun _ t => kE D ct ad G A y.1 t) A) ([.ref (ad a), va_re ad p0, va_re ad p1, .int p2, .int p3] : List Value).toArray s 0 0 A) (F0 m 233 ls [.int y9]) := by
        intro H locs ls hP hD hS hl
        obtain ⟨hz9, hF⟩ := chk_some hF
        obtain rfl := Option.some.inj hF
        exact W.zret (v := y9) (ty := .boolean) hx hb hr (nar_z hz9).1 (fun t ht hW => ⟨⟨_, (), rfl, rfl, ⟨by rw [ht]; exact hP, va_K.moved hW.alike hK, hD⟩⟩, hS.F ht⟩) hS.2.2 dX6_measureSixteen_233
      clear hF
      have hF := hy9
      clear hy9
      refine lv_if_le (tgt := 232) hx hb dX6_measureSixteen_225 (by decide) (fun c10 => ?_) (fun c10 => ?_)
      · rw [if_pos c10] at hF
        refine lv_iconst (v := (0 : Int32)) hx hb dX6_measureSixteen_232 (by decide) ?_
        obtain rfl := Option.some.inj hF
        exact J9 _ _ _ hP hD hS (lv_sub hl [0, 1, 2, 3, 4, 5, 6, 7] rfl)
      · rw [if_neg c10] at hF
        refine lv_iconst (v := (1 : Int32)) hx hb dX6_measureSixteen_228 (by decide) ?_
        refine lv_goto (tgt := 233) hx hb dX6_measureSixteen_229 (by decide) ?_
        obtain rfl := Option.some.inj hF
        exact J9 _ _ _ hP hD hS (lv_sub hl [0, 1, 2, 3, 4, 5, 6, 7] rfl)
    clear hF
    refine itr_rule (fun (s7 : Int32 × DD) => ∀ (H : Heap) (locs : List Loc) (ls : Array Slot), va_P D classes (wld ct ad G s7.2) H → va_D A (wld ct ad G s7.2) → va_S A s.heap H locs → lv_has ls 10 [(7, .int s7.1), (6, .int y5.2), (5, .int y1.1), (0, .ref (ad a)), (1, va_re ad p0), (2, va_re ad p1), (3, .int p2), (4, .int p3)] → W p l e (headSpec wsX6_measureSixteen ({ frames := 2, cells := 0, slots := 0, locals := 54 })).room s m ([.ref (ad a), va_re ad p0, va_re ad p1, .int p2, .int p3] : List Value).toArray below meth c H locs 0 0 (MQ below (va_Qi (fun (q : Int32) (_ : Unit) => q = y.2) (fun _ t => kE D ct ad G A y.1 t) A) ([.ref (ad a), va_re ad p0, va_re ad p1, .int p2, .int p3] : List Value).toArray s 0 0 A) (F0 m 144 ls [])) ?_ _ _ hy6 _ _ _ hP hD hS (lv_sub hl [0, 1, 2, 3, 4, 5, 6, 7] rfl)
    rintro s7 ⟨z11, hF, hwz11⟩ H locs ls hP hD hS hl
    try dsimp only at hF
    refine lv_iload hx hb dX6_measureSixteen_144 (lv_at hl 0 rfl) ?_
    refine lv_bipush (v := (16 : Int32)) hx hb dX6_measureSixteen_146 (by decide) ?_
    refine lv_icmp_ge (tgt := 223) hx hb dX6_measureSixteen_148 (by decide) (fun c12 => ?_) (fun c12 => ?_)
    · rw [if_pos c12] at hF
      obtain rfl := Option.some.inj hF
      subst hwz11
      exact K6 _ _ _ hP hD hS (lv_sub hl [0, 1, 2, 3, 4, 5, 6, 7] rfl)
    · rw [if_neg c12] at hF
      refine lv_aload_n hx hb dX6_measureSixteen_151 rfl (lv_at hl 3 rfl) ?_
      refine va_get (D := D) (ci := 6) (v := va_re ad (s7.2.2 a 7)) (C := RX6) (T := TX6) (N := 14) hx hb hts (by decide +kernel) hown hK hP a (wld_o ct ad G s7.2 hc hk (by decide)) rfl 7 (by decide) (hts (.fieldLink RX6 33 "VideoSuite$Samples" "even" "[I") (by decide +kernel)) (fun _ h9 => h9) rfl dX6_measureSixteen_152 ?_
      refine lv_iconst (v := (4 : Int32)) hx hb dX6_measureSixteen_155 (by decide) ?_
      refine va_gets hx hb (hZ.1 15 (by decide)).1 hS hown (hts (.fieldLink RX6 221 "VideoSuite$Samples" "SCAN_Y" "[I") (by decide +kernel)) (fun _ h => h) dX6_measureSixteen_156 ?_
      refine lv_iload hx hb dX6_measureSixteen_159 (lv_at hl 0 rfl) ?_
      obtain ⟨hvc, hF⟩ := chk_some hF
      refine va_ti (v := .int ((sT 15).getD s7.1.toNatClampNeg 0)) hx hb (hZ.1 15 (by decide)).2 hS hvc rfl dX6_measureSixteen_161 ?_
      obtain ⟨x13, ex13, hF⟩ := ltt_some hF
      refine lv_topi (fun zx13 ezx13 => ?_)
      obtain rfl : x13 = zx13 := ex13.trans ezx13.symm
      refine lv_imul hx hb dX6_measureSixteen_162 ?_
      obtain ⟨x14, ex14, hF⟩ := ltt_some hF
      refine lv_topi (fun zx14 ezx14 => ?_)
      obtain rfl : x14 = zx14 := ex14.trans ezx14.symm
      refine va_gets hx hb (hZ.1 14 (by decide)).1 hS hown (hts (.fieldLink RX6 218 "VideoSuite$Samples" "SCAN_X" "[I") (by decide +kernel)) (fun _ h => h) dX6_measureSixteen_163 ?_
      refine lv_iload hx hb dX6_measureSixteen_166 (lv_at hl 0 rfl) ?_
      obtain ⟨hvc, hF⟩ := chk_some hF
      refine va_ti (v := .int ((sT 14).getD s7.1.toNatClampNeg 0)) hx hb (hZ.1 14 (by decide)).2 hS hvc rfl dX6_measureSixteen_168 ?_
      obtain ⟨x15, ex15, hF⟩ := ltt_some hF
      refine lv_topi (fun zx15 ezx15 => ?_)
      obtain rfl : x15 = zx15 := ex15.trans ezx15.symm
      refine lv_iadd hx hb dX6_measureSixteen_169 ?_
      obtain ⟨x16, ex16, hF⟩ := ltt_some hF
      refine lv_topi (fun zx16 ezx16 => ?_)
      obtain rfl : x16 = zx16 := ex16.trans ezx16.symm
      obtain ⟨b17, ho17, hc17, hk17, hF⟩ := dr_some hF
      refine W_st (st' := [.int x16, .ref (ad b17)]) (by rw [va_some ho17]) ?_
      obtain ⟨hvc, hF⟩ := chk_some hF
      refine va_iald hx hb hK hP b17 1 (wld_i ct ad G s7.2 hc17 hk17) rfl hvc dX6_measureSixteen_170 ?_
      obtain ⟨x18, ex18, hF⟩ := ltt_some hF
      refine lv_topi (fun zx18 ezx18 => ?_)
      obtain rfl : x18 = zx18 := ex18.trans ezx18.symm
      refine lv_iconst (v := (2 : Int32)) hx hb dX6_measureSixteen_171 (by decide) ?_
      refine lv_idiv hx hb dX6_measureSixteen_172 (by decide) ?_
      obtain ⟨x19, ex19, hF⟩ := ltt_some hF
      refine lv_topi (fun zx19 ezx19 => ?_)
      obtain rfl : x19 = zx19 := ex19.trans ezx19.symm
      refine lv_istore (lv' := [(8, .int x19), (7, .int s7.1), (6, .int y5.2), (5, .int y1.1), (0, .ref (ad a)), (1, va_re ad p0), (2, va_re ad p1), (3, .int p2), (4, .int p3)]) hx hb dX6_measureSixteen_173 hl (by decide) rfl (fun ls hl => ?_)
      refine lv_aloadq_n hx hb dX6_measureSixteen_175 rfl (lv_at hl 5 rfl) ?_
      obtain ⟨b20, ho20, hc20, hk20, hF⟩ := dr_some hF
      refine W_st (st' := [.ref (ad b20)]) (by rw [va_some ho20]) ?_
      refine va_get (D := D) (ci := 9) (v := va_re ad (s7.2.2 b20 9)) (C := RX9) (T := TX9) (N := 20) hx hb hts (by decide +kernel) hown hK hP b20 (wld_o ct ad G s7.2 hc20 hk20 (by decide)) rfl 9 (by decide) (hts (.fieldLink RX6 234 "VideoSuite$Work" "level" "[I") (by decide +kernel)) (fun _ h9 => h9) rfl dX6_measureSixteen_176 ?_
      refine lv_iload hx hb dX6_measureSixteen_179 (lv_at hl 2 rfl) ?_
      refine lv_iload hx hb dX6_measureSixteen_181 (lv_at hl 1 rfl) ?_
      refine lv_iadd hx hb dX6_measureSixteen_183 ?_
      obtain ⟨x21, ex21, hF⟩ := ltt_some hF
      refine lv_topi (fun zx21 ezx21 => ?_)
      obtain rfl : x21 = zx21 := ex21.trans ezx21.symm
      refine lv_iload hx hb dX6_measureSixteen_184 (lv_at hl 0 rfl) ?_
      refine va_gets hx hb (hZ.1 12 (by decide)).1 hS hown (hts (.fieldLink RX6 259 "VideoSuite$Samples" "MEASURE" "[I") (by decide +kernel)) (fun _ h => h) dX6_measureSixteen_186 ?_
      refine lv_iload hx hb dX6_measureSixteen_189 (lv_at hl 8 rfl) ?_
      refine lv_iconst (v := (0 : Int32)) hx hb dX6_measureSixteen_191 (by decide) ?_
      refine lv_iconst (v := (0 : Int32)) hx hb dX6_measureSixteen_192 (by decide) ?_
      obtain ⟨y22, hy22, hF⟩ := bnd_some hF
      have hf9 := wA_in hD hA9 hS
      refine va_calli (va_runS (As := [.int p3, .int (0 : Int32), .int (0 : Int32)]) (rest := [.ref (Z 12), .int x19, .int x21, va_re ad (s7.2.2 b20 9)]) ⟨hx, hb, hml, hown, hts⟩ (kX6_normAt l D ct ad Z G s7.2 H.size p3 ((0 : Int32)) ((0 : Int32)) y22 hy22) (va_cwS 3 hts gX6_measureSixteen_X6_normAt rfl rfl rfl (by decide +kernel) ⟨Nat.le_of_ble_eq_true rfl, Nat.le_of_ble_eq_true rfl⟩) ⟨fun a U g mk q => by obtain ⟨q0, q1, qP, qK, qD, qZ, qN⟩ := q; exact ⟨q0, q1, qP, va_K.moved (u := U) (U := U.calling g mk a) (Vm.Alike.refl U.vm) qK, qD, sF.moved (u := U) (U := U.calling g mk a) (Vm.Alike.refl U.vm) qZ, nF.same rfl qN⟩, fun U hU hW => ⟨rfl, by rw [hU], by rw [hU]; exact hP, va_K.moved hW.alike hK, hD.weaken (fun _ _ _ _ => trivial), by rw [hU]; exact ((hZ.kept hS.2.1).narrow hf9).moved hW.alike, hN.warm hW⟩⟩ rfl rfl hl.1 rfl (lv_room (by simp only [List.map, va_re_cat]; exact Nat.le_of_ble_eq_true rfl)) dX6_measureSixteen_193 ⟨(Nat.zero_le _), (Nat.zero_le _)⟩) hS (fun q _ h => hf9 q h) hf9 (fun r u t H locs ht hvm hw hB hz1 hk1 hS => ?_)
      obtain ⟨hP, hK9, hD9⟩ := hB
      rw [ht] at hP
      try dsimp only at hw
      subst hw
      have hD := hD9.weaken (fun _ q _ h => hf9 q.1 h)
      obtain ⟨hvc, hF⟩ := chk_some hF
      refine va_ti (v := .int ((sT 12).getD y22.2.toNatClampNeg 0)) hx hb (hZ.1 12 (by decide)).2 hS hvc rfl dX6_measureSixteen_196 ?_
      obtain ⟨x23, ex23, hF⟩ := ltt_some hF
      refine lv_topi (fun zx23 ezx23 => ?_)
      obtain rfl : x23 = zx23 := ex23.trans ezx23.symm
      refine lv_iconst (v := (2 : Int32)) hx hb dX6_measureSixteen_197 (by decide) ?_
      refine lv_iload hx hb dX6_measureSixteen_198 (lv_at hl 8 rfl) ?_
      refine lv_iconst (v := (1 : Int32)) hx hb dX6_measureSixteen_200 (by decide) ?_
      obtain ⟨y24, hy24, hF⟩ := bnd_some hF
      have hf9 := wA_in hD hA9 hS
      refine va_calli (va_runS (As := [.int p3, .int (1 : Int32)]) (rest := [.int (2 : Int32), .int x23, .int x19, .int x21, va_re ad (s7.2.2 b20 9)]) ⟨hx, hb, hml, hown, hts⟩ (kX6_roundingOf l D ct ad Z G y22.1 H.size p3 ((1 : Int32)) y24 hy24) (va_cwS 2 hts gX6_measureSixteen_X6_roundingOf rfl rfl rfl (by decide +kernel) ⟨Nat.le_of_ble_eq_true rfl, Nat.le_of_ble_eq_true rfl⟩) ⟨fun a U g mk q => by obtain ⟨q0, q1, qP, qK, qD, qZ, qN⟩ := q; exact ⟨q0, q1, qP, va_K.moved (u := U) (U := U.calling g mk a) (Vm.Alike.refl U.vm) qK, qD, sF.moved (u := U) (U := U.calling g mk a) (Vm.Alike.refl U.vm) qZ, nF.same rfl qN⟩, fun U hU hW => ⟨rfl, by rw [hU], by rw [hU]; exact hP, va_K.moved hW.alike hK, hD.weaken (fun _ _ _ _ => trivial), by rw [hU]; exact ((hZ.kept hS.2.1).narrow hf9).moved hW.alike, hN.warm hW⟩⟩ rfl rfl hl.1 rfl (lv_room (by simp only [List.map, va_re_cat]; exact Nat.le_of_ble_eq_true rfl)) dX6_measureSixteen_201 ⟨(Nat.zero_le _), (Nat.zero_le _)⟩) hS (fun q _ h => hf9 q h) hf9 (fun r u t H locs ht hvm hw hB hz1 hk1 hS => ?_)
      obtain ⟨hP, hK9, hD9⟩ := hB
      rw [ht] at hP
      try dsimp only at hw
      subst hw
      have hD := hD9.weaken (fun _ q _ h => hf9 q.1 h)
      refine lv_imul hx hb dX6_measureSixteen_204 ?_
      obtain ⟨x25, ex25, hF⟩ := ltt_some hF
      refine lv_topi (fun zx25 ezx25 => ?_)
      obtain rfl : x25 = zx25 := ex25.trans ezx25.symm
      refine lv_bipush (v := (16 : Int32)) hx hb dX6_measureSixteen_205 (by decide) ?_
      refine lv_iload hx hb dX6_measureSixteen_207 (lv_at hl 8 rfl) ?_
      refine lv_bipush (v := (6 : Int32)) hx hb dX6_measureSixteen_209 (by decide) ?_
      refine lv_idiv hx hb dX6_measureSixteen_211 (by decide) ?_
      obtain ⟨x26, ex26, hF⟩ := ltt_some hF
      refine lv_topi (fun zx26 ezx26 => ?_)
      obtain rfl : x26 = zx26 := ex26.trans ezx26.symm
      refine lv_iadd hx hb dX6_measureSixteen_212 ?_
      obtain ⟨x27, ex27, hF⟩ := ltt_some hF
      refine lv_topi (fun zx27 ezx27 => ?_)
      obtain rfl : x27 = zx27 := ex27.trans ezx27.symm
      obtain ⟨y28, hy28, hF⟩ := bnd_some hF
      have hf9 := wA_in hD hA9 hS
      refine va_calli (va_runS (As := [.int x19, .int x23, .int x25, .int x27]) (rest := [.int x21, va_re ad (s7.2.2 b20 9)]) ⟨hx, hb, hml, hown, hts⟩ (kX6_measured l D ct ad Z G y24.1 H.size x19 x23 x25 x27 y28 hy28) (va_cwS 4 hts gX6_measureSixteen_X6_measured rfl rfl rfl (by decide +kernel) ⟨Nat.le_of_ble_eq_true rfl, Nat.le_of_ble_eq_true rfl⟩) ⟨fun a U g mk q => by obtain ⟨q0, q1, qP, qK, qD, qZ, qN⟩ := q; exact ⟨q0, q1, qP, va_K.moved (u := U) (U := U.calling g mk a) (Vm.Alike.refl U.vm) qK, qD, sF.moved (u := U) (U := U.calling g mk a) (Vm.Alike.refl U.vm) qZ, nF.same rfl qN⟩, fun U hU hW => ⟨rfl, by rw [hU], by rw [hU]; exact hP, va_K.moved hW.alike hK, hD.weaken (fun _ _ _ _ => trivial), by rw [hU]; exact ((hZ.kept hS.2.1).narrow hf9).moved hW.alike, hN.warm hW⟩⟩ rfl rfl hl.1 rfl (lv_room (by simp only [List.map, va_re_cat]; exact Nat.le_of_ble_eq_true rfl)) dX6_measureSixteen_213 ⟨(Nat.zero_le _), (Nat.zero_le _)⟩) hS (fun q _ h => hf9 q h) hf9 (fun r u t H locs ht hvm hw hB hz1 hk1 hS => ?_)
      obtain ⟨hP, hK9, hD9⟩ := hB
      rw [ht] at hP
      try dsimp only at hw
      subst hw
      have hD := hD9.weaken (fun _ q _ h => hf9 q.1 h)
      obtain ⟨b29, ho29, hc29, hk29, hF⟩ := dr_some hF
      refine W_st (st' := [.int y28.2, .int x21, .ref (ad b29)]) (by rw [va_some ho29]) ?_
      obtain ⟨hvc, hF⟩ := chk_some hF
      refine va_iast hx hb hK hP hD hS b29 1 (wld_i ct ad G y28.1 hc29 hk29) rfl hvc dX6_measureSixteen_216 (fun H locs hP hD hS => ?_)
      obtain ⟨M30, eM30, hF⟩ := ltt_some hF
      rw [set_i ct ad G y28.1 hc29 hk29, ← eM30] at hP hD
      obtain ⟨x31, ex31, hF⟩ := ltt_some hF
      refine lv_iinc (v := x31) (lv' := [(7, .int x31), (8, .int x19), (6, .int y5.2), (5, .int y1.1), (0, .ref (ad a)), (1, va_re ad p0), (2, va_re ad p1), (3, .int p2), (4, .int p3)]) hx hb dX6_measureSixteen_217 hl (k := 1) rfl (by rw [ex31]; rfl) (by decide) rfl (fun ls hl => ?_)
      refine lv_goto (tgt := 144) hx hb dX6_measureSixteen_220 (by decide) ?_
      obtain rfl := Option.some.inj hF
      exact hwz11 _ _ _ hP hD hS (lv_sub hl [0, 2, 3, 4, 5, 6, 7, 8] rfl)
  clear hF
  refine itr_rule (fun (s2 : Int32 × Int32 × DD) => ∀ (H : Heap) (locs : List Loc) (ls : Array Slot), va_P D classes (wld ct ad G s2.2.2) H → va_D A (wld ct ad G s2.2.2) → va_S A s.heap H locs → lv_has ls 10 [(6, .int s2.2.1), (5, .int s2.1), (0, .ref (ad a)), (1, va_re ad p0), (2, va_re ad p1), (3, .int p2), (4, .int p3)] → W p l e (headSpec wsX6_measureSixteen ({ frames := 2, cells := 0, slots := 0, locals := 54 })).room s m ([.ref (ad a), va_re ad p0, va_re ad p1, .int p2, .int p3] : List Value).toArray below meth c H locs 0 0 (MQ below (va_Qi (fun (q : Int32) (_ : Unit) => q = y.2) (fun _ t => kE D ct ad G A y.1 t) A) ([.ref (ad a), va_re ad p0, va_re ad p1, .int p2, .int p3] : List Value).toArray s 0 0 A) (F0 m 6 ls [])) ?_ _ _ hy1 _ _ _ hP hD hS (lv_sub hl [0, 1, 2, 3, 4, 5, 6] rfl)
  rintro s2 ⟨z32, hF, hwz32⟩ H locs ls hP hD hS hl
  try dsimp only at hF
  refine lv_iload hx hb dX6_measureSixteen_6 (lv_at hl 0 rfl) ?_
  refine lv_bipush (v := (16 : Int32)) hx hb dX6_measureSixteen_8 (by decide) ?_
  refine lv_icmp_ge (tgt := 129) hx hb dX6_measureSixteen_10 (by decide) (fun c33 => ?_) (fun c33 => ?_)
  · rw [if_pos c33] at hF
    obtain rfl := Option.some.inj hF
    subst hwz32
    exact K1 _ _ _ hP hD hS (lv_sub hl [0, 1, 2, 3, 4, 5, 6] rfl)
  · rw [if_neg c33] at hF
    refine lv_iload hx hb dX6_measureSixteen_13 (lv_at hl 0 rfl) ?_
    obtain ⟨y34, hy34, hF⟩ := bnd_some hF
    have hf9 := wA_in hD hA9 hS
    refine va_calli (va_runS (As := [.int s2.2.1]) (rest := []) ⟨hx, hb, hml, hown, hts⟩ (kX9_pieceX l D ct ad Z G s2.2.2 H.size s2.2.1 y34 hy34) (va_cwS 1 hts gX6_measureSixteen_X9_pieceX rfl rfl rfl (by decide +kernel) ⟨Nat.le_of_ble_eq_true rfl, Nat.le_of_ble_eq_true rfl⟩) ⟨fun a U g mk q => by obtain ⟨q0, q1, qP, qK, qD, qZ, qN⟩ := q; exact ⟨q0, q1, qP, va_K.moved (u := U) (U := U.calling g mk a) (Vm.Alike.refl U.vm) qK, qD, sF.moved (u := U) (U := U.calling g mk a) (Vm.Alike.refl U.vm) qZ, nF.same rfl qN⟩, fun U hU hW => ⟨rfl, by rw [hU], by rw [hU]; exact hP, va_K.moved hW.alike hK, hD.weaken (fun _ _ _ _ => trivial), by rw [hU]; exact ((hZ.kept hS.2.1).narrow hf9).moved hW.alike, hN.warm hW⟩⟩ rfl rfl hl.1 rfl (lv_room (Nat.le_of_ble_eq_true rfl)) dX6_measureSixteen_15 ⟨(Nat.zero_le _), (Nat.zero_le _)⟩) hS (fun q _ h => hf9 q h) hf9 (fun r u t H locs ht hvm hw hB hz1 hk1 hS => ?_)
    obtain ⟨hP, hK9, hD9⟩ := hB
    rw [ht] at hP
    try dsimp only at hw
    subst hw
    have hD := hD9.weaken (fun _ q _ h => hf9 q.1 h)
    refine lv_istore (lv' := [(7, .int y34.2), (6, .int s2.2.1), (5, .int s2.1), (0, .ref (ad a)), (1, va_re ad p0), (2, va_re ad p1), (3, .int p2), (4, .int p3)]) hx hb dX6_measureSixteen_18 hl (by decide) rfl (fun ls hl => ?_)
    refine lv_iload hx hb dX6_measureSixteen_20 (lv_at hl 1 rfl) ?_
    obtain ⟨y35, hy35, hF⟩ := bnd_some hF
    have hf9 := wA_in hD hA9 hS
    refine va_calli (va_runS (As := [.int s2.2.1]) (rest := []) ⟨hx, hb, hml, hown, hts⟩ (kX9_pieceY l D ct ad Z G y34.1 H.size s2.2.1 y35 hy35) (va_cwS 1 hts gX6_measureSixteen_X9_pieceY rfl rfl rfl (by decide +kernel) ⟨Nat.le_of_ble_eq_true rfl, Nat.le_of_ble_eq_true rfl⟩) ⟨fun a U g mk q => by obtain ⟨q0, q1, qP, qK, qD, qZ, qN⟩ := q; exact ⟨q0, q1, qP, va_K.moved (u := U) (U := U.calling g mk a) (Vm.Alike.refl U.vm) qK, qD, sF.moved (u := U) (U := U.calling g mk a) (Vm.Alike.refl U.vm) qZ, nF.same rfl qN⟩, fun U hU hW => ⟨rfl, by rw [hU], by rw [hU]; exact hP, va_K.moved hW.alike hK, hD.weaken (fun _ _ _ _ => trivial), by rw [hU]; exact ((hZ.kept hS.2.1).narrow hf9).moved hW.alike, hN.warm hW⟩⟩ rfl rfl hl.1 rfl (lv_room (Nat.le_of_ble_eq_true rfl)) dX6_measureSixteen_22 ⟨(Nat.zero_le _), (Nat.zero_le _)⟩) hS (fun q _ h => hf9 q h) hf9 (fun r u t H locs ht hvm hw hB hz1 hk1 hS => ?_)
    obtain ⟨hP, hK9, hD9⟩ := hB
    rw [ht] at hP
    try dsimp only at hw
    subst hw
    have hD := hD9.weaken (fun _ q _ h => hf9 q.1 h)
    refine lv_istore (lv' := [(8, .int y35.2), (7, .int y34.2), (6, .int s2.2.1), (5, .int s2.1), (0, .ref (ad a)), (1, va_re ad p0), (2, va_re ad p1), (3, .int p2), (4, .int p3)]) hx hb dX6_measureSixteen_25 hl (by decide) rfl (fun ls hl => ?_)
    refine lv_aload_n hx hb dX6_measureSixteen_27 rfl (lv_at hl 4 rfl) ?_
    refine lv_aloadq_n hx hb dX6_measureSixteen_28 rfl (lv_at hl 6 rfl) ?_
    refine lv_aloadq_n hx hb dX6_measureSixteen_29 rfl (lv_at hl 5 rfl) ?_
    obtain ⟨b36, ho36, hc36, hk36, hF⟩ := dr_some hF
    refine W_st (st' := [.ref (ad b36), va_re ad p1, .ref (ad a)]) (by rw [va_some ho36]) ?_
    refine va_get (D := D) (ci := 9) (v := va_re ad (y35.1.2 b36 0)) (C := RX9) (T := TX9) (N := 20) hx hb hts (by decide +kernel) hown hK hP b36 (wld_o ct ad G y35.1 hc36 hk36 (by decide)) rfl 0 (by decide) (hts (.fieldLink RX6 46 "VideoSuite$Work" "pic" "LVideoSuite$Picture;") (by decide +kernel)) (fun _ h9 => h9) rfl dX6_measureSixteen_30 ?_
    refine lv_iload_n hx hb dX6_measureSixteen_33 rfl (lv_at hl 7 rfl) ?_
    refine lv_iload hx hb dX6_measureSixteen_34 (lv_at hl 1 rfl) ?_
    refine lv_iload hx hb dX6_measureSixteen_36 (lv_at hl 0 rfl) ?_
    obtain ⟨y37, hy37, hF⟩ := bnd_some hF
    have hf9 := wA_in hD hA9 hS
    refine va_calli (va_runS (As := [va_re ad (y35.1.2 b36 0), .int p2, .int y34.2, .int y35.2]) (rest := [va_re ad p1, .ref (ad a)]) ⟨hx, hb, hml, hown, hts⟩ (kX6_lumaAt l D ct ad Z G y35.1 H.size ((y35.1.2 b36 0)) p2 y34.2 y35.2 y37 hy37) (va_cwS 4 hts gX6_measureSixteen_X6_lumaAt rfl rfl rfl (by decide +kernel) ⟨Nat.le_of_ble_eq_true rfl, Nat.le_of_ble_eq_true rfl⟩) ⟨fun a U g mk q => by obtain ⟨q0, q1, qP, qK, qD, qZ, qN⟩ := q; exact ⟨q0, q1, qP, va_K.moved (u := U) (U := U.calling g mk a) (Vm.Alike.refl U.vm) qK, qD, sF.moved (u := U) (U := U.calling g mk a) (Vm.Alike.refl U.vm) qZ, nF.same rfl qN⟩, fun U hU hW => ⟨rfl, by rw [hU], by rw [hU]; exact hP, va_K.moved hW.alike hK, hD.weaken (fun _ _ _ _ => trivial), by rw [hU]; exact ((hZ.kept hS.2.1).narrow hf9).moved hW.alike, hN.warm hW⟩⟩ rfl rfl hl.1 rfl (lv_room (by simp only [List.map, va_re_cat]; exact Nat.le_of_ble_eq_true rfl)) dX6_measureSixteen_38 ⟨(Nat.zero_le _), (Nat.zero_le _)⟩) hS (fun q _ h => hf9 q h) hf9 (fun r u t H locs ht hvm hw hB hz1 hk1 hS => ?_)
    obtain ⟨hP, hK9, hD9⟩ := hB
    rw [ht] at hP
    try dsimp only at hw
    subst hw
    have hD := hD9.weaken (fun _ q _ h => hf9 q.1 h)
    refine lv_bipush (v := (16 : Int32)) hx hb dX6_measureSixteen_41 (by decide) ?_
    refine lv_aloadq_n hx hb dX6_measureSixteen_43 rfl (lv_at hl 5 rfl) ?_
    refine W_st (st' := [.ref (ad b36), .int (16 : Int32), .int y37.2, va_re ad p1, .ref (ad a)]) (by rw [va_some ho36]) ?_
    refine va_get (D := D) (ci := 9) (v := va_re ad (y37.1.2 b36 0)) (C := RX9) (T := TX9) (N := 20) hx hb hts (by decide +kernel) hown hK hP b36 (wld_o ct ad G y37.1 hc36 hk36 (by decide)) rfl 0 (by decide) (hts (.fieldLink RX6 46 "VideoSuite$Work" "pic" "LVideoSuite$Picture;") (by decide +kernel)) (fun _ h9 => h9) rfl dX6_measureSixteen_44 ?_
    obtain ⟨b38, ho38, hc38, hk38, hF⟩ := dr_some hF
    refine W_st (st' := [.ref (ad b38), .int (16 : Int32), .int y37.2, va_re ad p1, .ref (ad a)]) (by rw [va_some ho38]) ?_
    refine va_get (D := D) (ci := 4) (v := .int (y37.1.1 b38 1)) (C := RX4) (T := TX4) (N := 18) hx hb hts (by decide +kernel) hown hK hP b38 (wld_o ct ad G y37.1 hc38 hk38 (by decide)) rfl 1 (by decide) (hts (.fieldLink RX6 83 "VideoSuite$Picture" "width" "I") (by decide +kernel)) (fun _ h9 => h9) rfl dX6_measureSixteen_47 ?_
    obtain ⟨x39, ex39, hF⟩ := ltt_some hF
    refine lv_topi (fun zx39 ezx39 => ?_)
    obtain rfl : x39 = zx39 := ex39.trans ezx39.symm
    refine lv_imul hx hb dX6_measureSixteen_50 ?_
    obtain ⟨x40, ex40, hF⟩ := ltt_some hF
    refine lv_topi (fun zx40 ezx40 => ?_)
    obtain rfl : x40 = zx40 := ex40.trans ezx40.symm
    refine lv_bipush (v := (16 : Int32)) hx hb dX6_measureSixteen_51 (by decide) ?_
    refine lv_iload hx hb dX6_measureSixteen_53 (lv_at hl 0 rfl) ?_
    refine lv_imul hx hb dX6_measureSixteen_55 ?_
    obtain ⟨x41, ex41, hF⟩ := ltt_some hF
    refine lv_topi (fun zx41 ezx41 => ?_)
    obtain rfl : x41 = zx41 := ex41.trans ezx41.symm
    refine lv_iload hx hb dX6_measureSixteen_56 (lv_at hl 1 rfl) ?_
    refine lv_iadd hx hb dX6_measureSixteen_58 ?_
    obtain ⟨x42, ex42, hF⟩ := ltt_some hF
    refine lv_topi (fun zx42 ezx42 => ?_)
    obtain rfl : x42 = zx42 := ex42.trans ezx42.symm
    refine lv_bipush (v := (16 : Int32)) hx hb dX6_measureSixteen_59 (by decide) ?_
    obtain ⟨y43, hy43, hF⟩ := bnd_some hF
    have hf9 := wA_in hD hA9 hS
    refine va_callv (va_runV (As := [va_re ad p1, .int y37.2, .int x40, .int x42, .int (16 : Int32)]) (rest := []) ⟨hx, hb, hml, hown, hts⟩ (kX6_turn l D ct ad Z G y37.1 H.size a p1 y37.2 x40 x42 ((16 : Int32)) y43 hc hk hy43) (cwV 5 hts gX6_measureSixteen_X6_turn rfl rfl rfl (by decide +kernel) ⟨Nat.le_of_ble_eq_true rfl, Nat.le_of_ble_eq_true rfl⟩) ⟨fun a U g mk q => by obtain ⟨q0, q1, qP, qK, qD, qZ, qN⟩ := q; exact ⟨q0, q1, qP, va_K.moved (u := U) (U := U.calling g mk a) (Vm.Alike.refl U.vm) qK, qD, sF.moved (u := U) (U := U.calling g mk a) (Vm.Alike.refl U.vm) qZ, nF.same rfl qN⟩, va_recv hK hP (ci := 6) (q0 := a) rfl (wld_o ct ad G y37.1 hc hk (by decide)), fun U hU hW => ⟨rfl, by rw [hU], by rw [hU]; exact hP, va_K.moved hW.alike hK, hD.weaken (fun _ _ _ _ => trivial), by rw [hU]; exact ((hZ.kept hS.2.1).narrow hf9).moved hW.alike, hN.warm hW⟩⟩ rfl rfl hl.1 rfl (lv_room (Nat.le_of_ble_eq_true rfl)) dX6_measureSixteen_61 ⟨(Nat.zero_le _), (Nat.zero_le _)⟩) hS (fun q _ h => hf9 q h) hf9 (fun u t H locs ht hvm hw hB hz1 hk1 hS => ?_)
    obtain ⟨hP, hK9, hD9⟩ := hB
    rw [ht] at hP
    have hD := hD9.weaken (fun _ q _ h => hf9 q.1 h)
    refine lv_aload_n hx hb dX6_measureSixteen_64 rfl (lv_at hl 4 rfl) ?_
    refine va_get (D := D) (ci := 6) (v := va_re ad (y43.2 a 7)) (C := RX6) (T := TX6) (N := 14) hx hb hts (by decide +kernel) hown hK hP a (wld_o ct ad G y43 hc hk (by decide)) rfl 7 (by decide) (hts (.fieldLink RX6 33 "VideoSuite$Samples" "even" "[I") (by decide +kernel)) (fun _ h9 => h9) rfl dX6_measureSixteen_65 ?_
    refine lv_iload hx hb dX6_measureSixteen_68 (lv_at hl 0 rfl) ?_
    refine lv_iload hx hb dX6_measureSixteen_70 (lv_at hl 1 rfl) ?_
    refine lv_iconst (v := (4 : Int32)) hx hb dX6_measureSixteen_72 (by decide) ?_
    refine lv_idiv hx hb dX6_measureSixteen_73 (by decide) ?_
    obtain ⟨x44, ex44, hF⟩ := ltt_some hF
    refine lv_topi (fun zx44 ezx44 => ?_)
    obtain rfl : x44 = zx44 := ex44.trans ezx44.symm
    refine lv_iadd hx hb dX6_measureSixteen_74 ?_
    obtain ⟨x45, ex45, hF⟩ := ltt_some hF
    refine lv_topi (fun zx45 ezx45 => ?_)
    obtain rfl : x45 = zx45 := ex45.trans ezx45.symm
    refine lv_aload_n hx hb dX6_measureSixteen_75 rfl (lv_at hl 4 rfl) ?_
    refine va_get (D := D) (ci := 6) (v := va_re ad (y43.2 a 6)) (C := RX6) (T := TX6) (N := 14) hx hb hts (by decide +kernel) hown hK hP a (wld_o ct ad G y43 hc hk (by decide)) rfl 6 (by decide) (hts (.fieldLink RX6 30 "VideoSuite$Samples" "rest" "[I") (by decide +kernel)) (fun _ h9 => h9) rfl dX6_measureSixteen_76 ?_
    refine lv_iconst (v := (0 : Int32)) hx hb dX6_measureSixteen_79 (by decide) ?_
    obtain ⟨b46, ho46, hc46, hk46, hF⟩ := dr_some hF
    refine W_st (st' := [.int (0 : Int32), .ref (ad b46), .int x45, va_re ad (y43.2 a 7)]) (by rw [va_some ho46]) ?_
    obtain ⟨hvc, hF⟩ := chk_some hF
    refine va_iald hx hb hK hP b46 1 (wld_i ct ad G y43 hc46 hk46) rfl hvc dX6_measureSixteen_80 ?_
    obtain ⟨x47, ex47, hF⟩ := ltt_some hF
    refine lv_topi (fun zx47 ezx47 => ?_)
    obtain rfl : x47 = zx47 := ex47.trans ezx47.symm
    obtain ⟨b48, ho48, hc48, hk48, hF⟩ := dr_some hF
    refine W_st (st' := [.int x47, .int x45, .ref (ad b48)]) (by rw [va_some ho48]) ?_
    obtain ⟨hvc, hF⟩ := chk_some hF
    refine va_iast hx hb hK hP hD hS b48 1 (wld_i ct ad G y43 hc48 hk48) rfl hvc dX6_measureSixteen_81 (fun H locs hP hD hS => ?_)
    obtain ⟨M49, eM49, hF⟩ := ltt_some hF
    rw [set_i ct ad G y43 hc48 hk48, ← eM49] at hP hD
    refine lv_aload_n hx hb dX6_measureSixteen_82 rfl (lv_at hl 4 rfl) ?_
    refine lv_aloadq_n hx hb dX6_measureSixteen_83 rfl (lv_at hl 5 rfl) ?_
    refine W_st (st' := [.ref (ad b36), .ref (ad a)]) (by rw [va_some ho36]) ?_
    refine va_get (D := D) (ci := 9) (v := va_re ad (M49.2 b36 9)) (C := RX9) (T := TX9) (N := 20) hx hb hts (by decide +kernel) hown hK hP b36 (wld_o ct ad G M49 hc36 hk36 (by decide)) rfl 9 (by decide) (hts (.fieldLink RX6 234 "VideoSuite$Work" "level" "[I") (by decide +kernel)) (fun _ h9 => h9) rfl dX6_measureSixteen_84 ?_
    refine lv_iload_n hx hb dX6_measureSixteen_87 rfl (lv_at hl 7 rfl) ?_
    refine lv_iload hx hb dX6_measureSixteen_88 (lv_at hl 2 rfl) ?_
    obtain ⟨y50, hy50, hF⟩ := bnd_some hF
    have hf9 := wA_in hD hA9 hS
    refine va_calli (va_runS (As := [.int p2, .int s2.2.1]) (rest := [va_re ad (M49.2 b36 9), .ref (ad a)]) ⟨hx, hb, hml, hown, hts⟩ (kX9_levelAt l D ct ad Z G M49 H.size p2 s2.2.1 y50 hy50) (va_cwS 2 hts gX6_measureSixteen_X9_levelAt rfl rfl rfl (by decide +kernel) ⟨Nat.le_of_ble_eq_true rfl, Nat.le_of_ble_eq_true rfl⟩) ⟨fun a U g mk q => by obtain ⟨q0, q1, qP, qK, qD, qZ, qN⟩ := q; exact ⟨q0, q1, qP, va_K.moved (u := U) (U := U.calling g mk a) (Vm.Alike.refl U.vm) qK, qD, sF.moved (u := U) (U := U.calling g mk a) (Vm.Alike.refl U.vm) qZ, nF.same rfl qN⟩, fun U hU hW => ⟨rfl, by rw [hU], by rw [hU]; exact hP, va_K.moved hW.alike hK, hD.weaken (fun _ _ _ _ => trivial), by rw [hU]; exact ((hZ.kept hS.2.1).narrow hf9).moved hW.alike, hN.warm hW⟩⟩ rfl rfl hl.1 rfl (lv_room (by simp only [List.map, va_re_cat]; exact Nat.le_of_ble_eq_true rfl)) dX6_measureSixteen_90 ⟨(Nat.zero_le _), (Nat.zero_le _)⟩) hS (fun q _ h => hf9 q h) hf9 (fun r u t H locs ht hvm hw hB hz1 hk1 hS => ?_)
    obtain ⟨hP, hK9, hD9⟩ := hB
    rw [ht] at hP
    try dsimp only at hw
    subst hw
    have hD := hD9.weaken (fun _ q _ h => hf9 q.1 h)
    refine lv_iconst (v := (1 : Int32)) hx hb dX6_measureSixteen_93 (by decide) ?_
    refine lv_iload hx hb dX6_measureSixteen_94 (lv_at hl 8 rfl) ?_
    refine lv_iconst (v := (1 : Int32)) hx hb dX6_measureSixteen_96 (by decide) ?_
    obtain ⟨y51, hy51, hF⟩ := bnd_some hF
    have hf9 := wA_in hD hA9 hS
    refine va_calli (va_runV (As := [va_re ad (M49.2 b36 9), .int y50.2, .int (1 : Int32), .int p3, .int (1 : Int32)]) (rest := []) ⟨hx, hb, hml, hown, hts⟩ (kX6_measure l D ct ad Z G y50.1 H.size a ((M49.2 b36 9)) y50.2 ((1 : Int32)) p3 ((1 : Int32)) y51 hc hk hy51) (cwV 5 hts gX6_measureSixteen_X6_measure rfl rfl rfl (by decide +kernel) ⟨Nat.le_of_ble_eq_true rfl, Nat.le_of_ble_eq_true rfl⟩) ⟨fun a U g mk q => by obtain ⟨q0, q1, qP, qK, qD, qZ, qN⟩ := q; exact ⟨q0, q1, qP, va_K.moved (u := U) (U := U.calling g mk a) (Vm.Alike.refl U.vm) qK, qD, sF.moved (u := U) (U := U.calling g mk a) (Vm.Alike.refl U.vm) qZ, nF.same rfl qN⟩, va_recv hK hP (ci := 6) (q0 := a) rfl (wld_o ct ad G y50.1 hc hk (by decide)), fun U hU hW => ⟨rfl, by rw [hU], by rw [hU]; exact hP, va_K.moved hW.alike hK, hD.weaken (fun _ _ _ _ => trivial), by rw [hU]; exact ((hZ.kept hS.2.1).narrow hf9).moved hW.alike, hN.warm hW⟩⟩ rfl rfl hl.1 rfl (lv_room (Nat.le_of_ble_eq_true rfl)) dX6_measureSixteen_97 ⟨(Nat.zero_le _), (Nat.zero_le _)⟩) hS (fun q _ h => hf9 q h) hf9 (fun r u t H locs ht hvm hw hB hz1 hk1 hS => ?_)
    obtain ⟨hP, hK9, hD9⟩ := hB
    rw [ht] at hP
    try dsimp only at hw
    subst hw
    have hD := hD9.weaken (fun _ q _ h => hf9 q.1 h)
    refine lv_istore (lv' := [(9, .int y51.2), (8, .int y35.2), (7, .int y34.2), (6, .int s2.2.1), (5, .int s2.1), (0, .ref (ad a)), (1, va_re ad p0), (2, va_re ad p1), (3, .int p2), (4, .int p3)]) hx hb dX6_measureSixteen_100 hl (by decide) rfl (fun ls hl => ?_)
    refine lv_aloadq_n hx hb dX6_measureSixteen_102 rfl (lv_at hl 6 rfl) ?_
    refine W_st (st' := [.ref (ad b36)]) (by rw [va_some ho36]) ?_
    refine va_get (D := D) (ci := 9) (v := va_re ad (y51.1.2 b36 8)) (C := RX9) (T := TX9) (N := 20) hx hb hts (by decide +kernel) hown hK hP b36 (wld_o ct ad G y51.1 hc36 hk36 (by decide)) rfl 8 (by decide) (hts (.fieldLink RX6 277 "VideoSuite$Work" "total" "[I") (by decide +kernel)) (fun _ h9 => h9) rfl dX6_measureSixteen_103 ?_
    refine lv_bipush (v := (24 : Int32)) hx hb dX6_measureSixteen_106 (by decide) ?_
    refine lv_iload_n hx hb dX6_measureSixteen_108 rfl (lv_at hl 8 rfl) ?_
    refine lv_imul hx hb dX6_measureSixteen_109 ?_
    obtain ⟨x52, ex52, hF⟩ := ltt_some hF
    refine lv_topi (fun zx52 ezx52 => ?_)
    obtain rfl : x52 = zx52 := ex52.trans ezx52.symm
    refine lv_iload hx hb dX6_measureSixteen_110 (lv_at hl 3 rfl) ?_
    refine lv_iadd hx hb dX6_measureSixteen_112 ?_
    obtain ⟨x53, ex53, hF⟩ := ltt_some hF
    refine lv_topi (fun zx53 ezx53 => ?_)
    obtain rfl : x53 = zx53 := ex53.trans ezx53.symm
    refine lv_iload hx hb dX6_measureSixteen_113 (lv_at hl 0 rfl) ?_
    obtain ⟨b54, ho54, hc54, hk54, hF⟩ := dr_some hF
    refine W_st (st' := [.int y51.2, .int x53, .ref (ad b54)]) (by rw [va_some ho54]) ?_
    obtain ⟨hvc, hF⟩ := chk_some hF
    refine va_iast hx hb hK hP hD hS b54 1 (wld_i ct ad G y51.1 hc54 hk54) rfl hvc dX6_measureSixteen_115 (fun H locs hP hD hS => ?_)
    obtain ⟨M55, eM55, hF⟩ := ltt_some hF
    rw [set_i ct ad G y51.1 hc54 hk54, ← eM55] at hP hD
    refine lv_iload hx hb dX6_measureSixteen_116 (lv_at hl 4 rfl) ?_
    refine lv_iload hx hb dX6_measureSixteen_118 (lv_at hl 0 rfl) ?_
    refine lv_iadd hx hb dX6_measureSixteen_120 ?_
    obtain ⟨x56, ex56, hF⟩ := ltt_some hF
    refine lv_topi (fun zx56 ezx56 => ?_)
    obtain rfl : x56 = zx56 := ex56.trans ezx56.symm
    refine lv_istore (lv' := [(5, .int x56), (9, .int y51.2), (8, .int y35.2), (7, .int y34.2), (6, .int s2.2.1), (0, .ref (ad a)), (1, va_re ad p0), (2, va_re ad p1), (3, .int p2), (4, .int p3)]) hx hb dX6_measureSixteen_121 hl (by decide) rfl (fun ls hl => ?_)
    obtain ⟨x57, ex57, hF⟩ := ltt_some hF
    refine lv_iinc (v := x57) (lv' := [(6, .int x57), (5, .int x56), (9, .int y51.2), (8, .int y35.2), (7, .int y34.2), (0, .ref (ad a)), (1, va_re ad p0), (2, va_re ad p1), (3, .int p2), (4, .int p3)]) hx hb dX6_measureSixteen_123 hl (k := 4) rfl (by rw [ex57]; rfl) (by decide) rfl (fun ls hl => ?_)
    refine lv_goto (tgt := 6) hx hb dX6_measureSixteen_126 (by decide) ?_
    obtain rfl := Option.some.inj hF
    exact hwz32 _ _ _ hP hD hS (lv_sub hl [0, 1, 5, 6, 7, 8, 9] rfl)
